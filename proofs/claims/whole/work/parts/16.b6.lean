theorem dX6_cell_0 : decode cX6_cell 0 = .ok (.aload_n 0, 1) := by decide +kernel
theorem dX6_cell_1 : decode cX6_cell 1 = .ok (.getfield 12, 3) := by decide +kernel
theorem dX6_cell_4 : decode cX6_cell 4 = .ok (.aload_n 0, 1) := by decide +kernel
theorem dX6_cell_5 : decode cX6_cell 5 = .ok (.getfield 47, 3) := by decide +kernel
theorem dX6_cell_8 : decode cX6_cell 8 = .ok (.aload_n 0, 1) := by decide +kernel
theorem dX6_cell_9 : decode cX6_cell 9 = .ok (.getfield 50, 3) := by decide +kernel
theorem dX6_cell_12 : decode cX6_cell 12 = .ok (.ifCond .eq 7, 3) := by decide +kernel
theorem dX6_cell_15 : decode cX6_cell 15 = .ok (.iconst 1, 1) := by decide +kernel
theorem dX6_cell_16 : decode cX6_cell 16 = .ok (.goto 4, 3) := by decide +kernel
theorem dX6_cell_19 : decode cX6_cell 19 = .ok (.iconst 0, 1) := by decide +kernel
theorem dX6_cell_20 : decode cX6_cell 20 = .ok (.invokevirtual 114, 3) := by decide +kernel
theorem dX6_cell_23 : decode cX6_cell 23 = .ok (.aload_n 0, 1) := by decide +kernel
theorem dX6_cell_24 : decode cX6_cell 24 = .ok (.getfield 12, 3) := by decide +kernel
theorem dX6_cell_27 : decode cX6_cell 27 = .ok (.aload_n 0, 1) := by decide +kernel
theorem dX6_cell_28 : decode cX6_cell 28 = .ok (.getfield 47, 3) := by decide +kernel
theorem dX6_cell_31 : decode cX6_cell 31 = .ok (.aload_n 0, 1) := by decide +kernel
theorem dX6_cell_32 : decode cX6_cell 32 = .ok (.getfield 50, 3) := by decide +kernel
theorem dX6_cell_35 : decode cX6_cell 35 = .ok (.ifCond .eq 7, 3) := by decide +kernel
theorem dX6_cell_38 : decode cX6_cell 38 = .ok (.iconst 0, 1) := by decide +kernel
theorem dX6_cell_39 : decode cX6_cell 39 = .ok (.goto 4, 3) := by decide +kernel
theorem dX6_cell_42 : decode cX6_cell 42 = .ok (.iconst 1, 1) := by decide +kernel
theorem dX6_cell_43 : decode cX6_cell 43 = .ok (.invokevirtual 114, 3) := by decide +kernel
theorem dX6_cell_46 : decode cX6_cell 46 = .ok (.invokestatic 120, 3) := by decide +kernel
theorem dX6_cell_49 : decode cX6_cell 49 = .ok (.ireturn, 1) := by decide +kernel
theorem bX6_cell_0 {G : GX} {h : mH} {Q : mO → mH → Prop} (hi : Iv h) (K : ((gI h 55 6) = 0 → WM G jX2_penAt [.ref 56, .int (gI h 55 4), .int 0] h (Aft G jX6_cell 20 [some (.ref 55)] [] Q)) ∧ (¬ (gI h 55 6) = 0 → WM G jX2_penAt [.ref 56, .int (gI h 55 4), .int 1] h (Aft G jX6_cell 20 [some (.ref 55)] [] Q))) : Vw G jX6_cell 0 [some (.ref 55)] [] h Q :=
  s_aload_n dX6_cell_0 rfl (s_getR (v := .ref 56) dX6_cell_1 flX6_12 rfl (hi.sh rfl rfl) (hi.rf (o := 55) (k := 0) (d := 1) rfl rfl) (s_aload_n dX6_cell_4 rfl (s_getI dX6_cell_5 flX6_47 (Or.inl rfl) (hi.sh rfl rfl) (s_aload_n dX6_cell_8 rfl (s_getI dX6_cell_9 flX6_50 (Or.inr rfl) (hi.sh rfl rfl) (s_if_eq 19 dX6_cell_12 rfl (fun q6 => s_iconst 0 dX6_cell_19 (by decide) (s_callV (As := [.int (gI h 55 4), .int 0]) dX6_cell_20 rfl lvX6_114 ⟨Nat.le_of_ble_eq_true rfl, Nat.le_of_ble_eq_true rfl⟩ (hi.sh rfl rfl) ⟨_, _, by decide, rfl⟩ rfl (Nat.le_of_ble_eq_true rfl) ((K.1 q6)))) (fun q6 => s_iconst 1 dX6_cell_15 (by decide) (s_goto 20 dX6_cell_16 rfl (s_callV (As := [.int (gI h 55 4), .int 1]) dX6_cell_20 rfl lvX6_114 ⟨Nat.le_of_ble_eq_true rfl, Nat.le_of_ble_eq_true rfl⟩ (hi.sh rfl rfl) ⟨_, _, by decide, rfl⟩ rfl (Nat.le_of_ble_eq_true rfl) ((K.2 q6)))))))))))
theorem bX6_cell_23 {G : GX} {h : mH} {Q : mO → mH → Prop} {vs0 : Int32} (hi : Iv h) (K : ((gI h 55 6) = 0 → WM G jX2_penAt [.ref 56, .int (gI h 55 4), .int 1] h (Aft G jX6_cell 43 [none] [.int vs0] Q)) ∧ (¬ (gI h 55 6) = 0 → WM G jX2_penAt [.ref 56, .int (gI h 55 4), .int 0] h (Aft G jX6_cell 43 [none] [.int vs0] Q))) : Vw G jX6_cell 23 [some (.ref 55)] [.int vs0] h Q :=
  s_aload_n dX6_cell_23 rfl (s_getR (v := .ref 56) dX6_cell_24 flX6_12 rfl (hi.sh rfl rfl) (hi.rf (o := 55) (k := 0) (d := 1) rfl rfl) (s_aload_n dX6_cell_27 rfl (s_getI dX6_cell_28 flX6_47 (Or.inl rfl) (hi.sh rfl rfl) (s_aload_n dX6_cell_31 rfl (s_getI dX6_cell_32 flX6_50 (Or.inr rfl) (hi.sh rfl rfl) (s_if_eq 42 dX6_cell_35 rfl (fun q6 => s_iconst 1 dX6_cell_42 (by decide) (Vw.mask [false] (s_callV (As := [.int (gI h 55 4), .int 1]) dX6_cell_43 rfl lvX6_114 ⟨Nat.le_of_ble_eq_true rfl, Nat.le_of_ble_eq_true rfl⟩ (hi.sh rfl rfl) ⟨_, _, by decide, rfl⟩ rfl (Nat.le_of_ble_eq_true rfl) ((K.1 q6))))) (fun q6 => s_iconst 0 dX6_cell_38 (by decide) (s_goto 43 dX6_cell_39 rfl (Vw.mask [false] (s_callV (As := [.int (gI h 55 4), .int 0]) dX6_cell_43 rfl lvX6_114 ⟨Nat.le_of_ble_eq_true rfl, Nat.le_of_ble_eq_true rfl⟩ (hi.sh rfl rfl) ⟨_, _, by decide, rfl⟩ rfl (Nat.le_of_ble_eq_true rfl) ((K.2 q6))))))))))))
theorem bX6_cell_46 {G : GX} {h : mH} {Q : mO → mH → Prop} {vs0 : Int32} {vs1 : Int32} (hi : Iv h) (K : Q (.inl (some (.int (fX10_cellOf vs1 vs0)))) h) : Vw G jX6_cell 46 [none] [.int vs0, .int vs1] h Q :=
  s_callSN (As := [.int vs1, .int vs0]) dX6_cell_46 rfl lnX6_120 w_960 ⟨Nat.le_of_ble_eq_true rfl, Nat.le_of_ble_eq_true rfl⟩ rfl (Nat.le_of_ble_eq_true rfl) (mX10_cellOf   (s_ireturn dX6_cell_49 rfl K))
theorem eX6_cell {G : GX} {h : mH} {Q : mO → mH → Prop} (hi : Iv h) (K : ((gI h 55 6) = 0 → WM G jX2_penAt [.ref 56, .int (gI h 55 4), .int 0] h (Aft G jX6_cell 20 [some (.ref 55)] [] Q)) ∧ (¬ (gI h 55 6) = 0 → WM G jX2_penAt [.ref 56, .int (gI h 55 4), .int 1] h (Aft G jX6_cell 20 [some (.ref 55)] [] Q))) : WM G jX6_cell [.ref 55] h Q :=
  WM.body (ls := [some (.ref 55)]) rfl (by decide +kernel) rfl (Nat.le_of_ble_eq_true rfl) rfl ((bX6_cell_0 hi  K))
theorem dX6_mark_0 : decode cX6_mark 0 = .ok (.iload_n 1, 1) := by decide +kernel
theorem dX6_mark_1 : decode cX6_mark 1 = .ok (.invokestatic 99, 3) := by decide +kernel
theorem dX6_mark_4 : decode cX6_mark 4 = .ok (.ifCond .ne 4, 3) := by decide +kernel
theorem dX6_mark_7 : decode cX6_mark 7 = .ok (.return_, 1) := by decide +kernel
theorem dX6_mark_8 : decode cX6_mark 8 = .ok (.aload_n 0, 1) := by decide +kernel
theorem dX6_mark_9 : decode cX6_mark 9 = .ok (.getfield 18, 3) := by decide +kernel
theorem dX6_mark_12 : decode cX6_mark 12 = .ok (.iload_n 1, 1) := by decide +kernel
theorem dX6_mark_13 : decode cX6_mark 13 = .ok (.iaload, 1) := by decide +kernel
theorem dX6_mark_14 : decode cX6_mark 14 = .ok (.ifCond .ne 13, 3) := by decide +kernel
theorem dX6_mark_17 : decode cX6_mark 17 = .ok (.aload_n 0, 1) := by decide +kernel
theorem dX6_mark_18 : decode cX6_mark 18 = .ok (.dup, 1) := by decide +kernel
theorem dX6_mark_19 : decode cX6_mark 19 = .ok (.getfield 41, 3) := by decide +kernel
theorem dX6_mark_22 : decode cX6_mark 22 = .ok (.iconst 1, 1) := by decide +kernel
theorem dX6_mark_23 : decode cX6_mark 23 = .ok (.iadd, 1) := by decide +kernel
theorem dX6_mark_24 : decode cX6_mark 24 = .ok (.putfield 41, 3) := by decide +kernel
theorem dX6_mark_27 : decode cX6_mark 27 = .ok (.aload_n 0, 1) := by decide +kernel
theorem dX6_mark_28 : decode cX6_mark 28 = .ok (.getfield 18, 3) := by decide +kernel
theorem dX6_mark_31 : decode cX6_mark 31 = .ok (.iload_n 1, 1) := by decide +kernel
theorem dX6_mark_32 : decode cX6_mark 32 = .ok (.dup2, 1) := by decide +kernel
theorem dX6_mark_33 : decode cX6_mark 33 = .ok (.iaload, 1) := by decide +kernel
theorem dX6_mark_34 : decode cX6_mark 34 = .ok (.iconst 1, 1) := by decide +kernel
theorem dX6_mark_35 : decode cX6_mark 35 = .ok (.iadd, 1) := by decide +kernel
theorem dX6_mark_36 : decode cX6_mark 36 = .ok (.iastore, 1) := by decide +kernel
theorem dX6_mark_37 : decode cX6_mark 37 = .ok (.return_, 1) := by decide +kernel
theorem bX6_mark_0 {G : GX} {h : mH} {Q : mO → mH → Prop} {v1 : Int32} (hi : Iv h) (K : (¬ (fX10_isCell v1) = 0 → (vp_in v1 729 ∧ ((¬ (gI h 66 (Int32.toNatClampNeg v1)) = 0 → Vw G jX6_mark 27 [some (.ref 55), some (.int v1)] [] h Q) ∧ ((gI h 66 (Int32.toNatClampNeg v1)) = 0 → Vw G jX6_mark 27 [some (.ref 55), some (.int v1)] [] (pI h 55 2 ((gI h 55 2) + 1)) Q)))) ∧ ((fX10_isCell v1) = 0 → Q (.inl none) h)) : Vw G jX6_mark 0 [some (.ref 55), some (.int v1)] [] h Q :=
  s_iload_n dX6_mark_0 rfl (s_callSN (As := [.int v1]) dX6_mark_1 rfl lnX6_99 w_967 ⟨Nat.le_of_ble_eq_true rfl, Nat.le_of_ble_eq_true rfl⟩ rfl (Nat.le_of_ble_eq_true rfl) (mX10_isCell   (s_if_ne 8 dX6_mark_4 rfl (fun q2 => s_aload_n dX6_mark_8 rfl (s_getR (v := .ref 66) dX6_mark_9 flX6_18 rfl (hi.sh rfl rfl) (hi.rf (o := 55) (k := 1) (d := 11) rfl rfl) (s_iload_n dX6_mark_12 rfl (s_iaload dX6_mark_13 (hi.sh rfl rfl) (K.1 q2).1 (s_if_ne 27 dX6_mark_14 rfl (fun q7 => ((K.1 q2).2.1 q7)) (fun q7 => s_aload_n dX6_mark_17 rfl (s_dupr dX6_mark_18 (s_getI dX6_mark_19 flX6_41 (Or.inl rfl) (hi.sh rfl rfl) (s_iconst 1 dX6_mark_22 (by decide) (s_iadd dX6_mark_23 (s_putI dX6_mark_24 flX6_41 ff6_2 rfl (hi.sh rfl rfl) (((K.1 q2).2.2 q7))))))))))))) (fun q2 => s_return dX6_mark_7 rfl (K.2 q2)))))
theorem bX6_mark_27 {G : GX} {h : mH} {Q : mO → mH → Prop} {v1 : Int32} (hi : Iv h) (K : vp_in v1 729 ∧ (vp_in v1 729 ∧ Q (.inl none) (pI h 66 (Int32.toNatClampNeg v1) ((gI h 66 (Int32.toNatClampNeg v1)) + 1)))) : Vw G jX6_mark 27 [some (.ref 55), some (.int v1)] [] h Q :=
  s_aload_n dX6_mark_27 rfl (s_getR (v := .ref 66) dX6_mark_28 flX6_18 rfl (hi.sh rfl rfl) (hi.rf (o := 55) (k := 1) (d := 11) rfl rfl) (s_iload_n dX6_mark_31 rfl (s_dup2ir dX6_mark_32 (s_iaload dX6_mark_33 (hi.sh rfl rfl) K.1 (s_iconst 1 dX6_mark_34 (by decide) (s_iadd dX6_mark_35 (s_iastore dX6_mark_36 (hi.sh rfl rfl) K.2.1 (s_return dX6_mark_37 rfl K.2.2))))))))
theorem eX6_mark {G : GX} {h : mH} {Q : mO → mH → Prop} {v1 : Int32} (hi : Iv h) (K : (¬ (fX10_isCell v1) = 0 → (vp_in v1 729 ∧ ((¬ (gI h 66 (Int32.toNatClampNeg v1)) = 0 → Vw G jX6_mark 27 [some (.ref 55), some (.int v1)] [] h Q) ∧ ((gI h 66 (Int32.toNatClampNeg v1)) = 0 → Vw G jX6_mark 27 [some (.ref 55), some (.int v1)] [] (pI h 55 2 ((gI h 55 2) + 1)) Q)))) ∧ ((fX10_isCell v1) = 0 → Q (.inl none) h)) : WM G jX6_mark [.ref 55, .int v1] h Q :=
  WM.body (ls := [some (.ref 55), some (.int v1)]) rfl (by decide +kernel) rfl (Nat.le_of_ble_eq_true rfl) rfl ((bX6_mark_0 hi  K))
theorem dX6_draw_0 : decode cX6_draw 0 = .ok (.aload_n 0, 1) := by decide +kernel
theorem dX6_draw_1 : decode cX6_draw 1 = .ok (.aload_n 0, 1) := by decide +kernel
theorem dX6_draw_2 : decode cX6_draw 2 = .ok (.getfield 47, 3) := by decide +kernel
theorem dX6_draw_5 : decode cX6_draw 5 = .ok (.iload_n 1, 1) := by decide +kernel
theorem dX6_draw_6 : decode cX6_draw 6 = .ok (.iadd, 1) := by decide +kernel
theorem dX6_draw_7 : decode cX6_draw 7 = .ok (.sipush 9999, 3) := by decide +kernel
theorem dX6_draw_10 : decode cX6_draw 10 = .ok (.if_icmp .le 7, 3) := by decide +kernel
theorem dX6_draw_13 : decode cX6_draw 13 = .ok (.iconst 1, 1) := by decide +kernel
theorem dX6_draw_14 : decode cX6_draw 14 = .ok (.goto 4, 3) := by decide +kernel
theorem dX6_draw_17 : decode cX6_draw 17 = .ok (.iconst 0, 1) := by decide +kernel
theorem dX6_draw_18 : decode cX6_draw 18 = .ok (.putfield 54, 3) := by decide +kernel
theorem dX6_draw_21 : decode cX6_draw 21 = .ok (.iconst 0, 1) := by decide +kernel
theorem dX6_draw_22 : decode cX6_draw 22 = .ok (.istore_n 2, 1) := by decide +kernel
theorem dX6_draw_23 : decode cX6_draw 23 = .ok (.iload_n 2, 1) := by decide +kernel
theorem dX6_draw_24 : decode cX6_draw 24 = .ok (.iload_n 1, 1) := by decide +kernel
theorem dX6_draw_25 : decode cX6_draw 25 = .ok (.if_icmp .ge 34, 3) := by decide +kernel
theorem dX6_draw_28 : decode cX6_draw 28 = .ok (.aload_n 0, 1) := by decide +kernel
theorem dX6_draw_29 : decode cX6_draw 29 = .ok (.getfield 54, 3) := by decide +kernel
theorem dX6_draw_32 : decode cX6_draw 32 = .ok (.ifCond .ne 27, 3) := by decide +kernel
theorem dX6_draw_35 : decode cX6_draw 35 = .ok (.aload_n 0, 1) := by decide +kernel
theorem dX6_draw_36 : decode cX6_draw 36 = .ok (.aload_n 0, 1) := by decide +kernel
theorem dX6_draw_37 : decode cX6_draw 37 = .ok (.invokevirtual 92, 3) := by decide +kernel
theorem dX6_draw_40 : decode cX6_draw 40 = .ok (.invokevirtual 96, 3) := by decide +kernel
theorem dX6_draw_43 : decode cX6_draw 43 = .ok (.aload_n 0, 1) := by decide +kernel
theorem dX6_draw_44 : decode cX6_draw 44 = .ok (.dup, 1) := by decide +kernel
theorem dX6_draw_45 : decode cX6_draw 45 = .ok (.getfield 47, 3) := by decide +kernel
theorem dX6_draw_48 : decode cX6_draw 48 = .ok (.iconst 1, 1) := by decide +kernel
theorem dX6_draw_49 : decode cX6_draw 49 = .ok (.iadd, 1) := by decide +kernel
theorem dX6_draw_50 : decode cX6_draw 50 = .ok (.putfield 47, 3) := by decide +kernel
theorem dX6_draw_53 : decode cX6_draw 53 = .ok (.iinc 2 1, 3) := by decide +kernel
theorem dX6_draw_56 : decode cX6_draw 56 = .ok (.goto (-33), 3) := by decide +kernel
theorem dX6_draw_59 : decode cX6_draw 59 = .ok (.return_, 1) := by decide +kernel
theorem bX6_draw_0 {G : GX} {h : mH} {Q : mO → mH → Prop} {v1 : Int32} (hi : Iv h) (K : (((gI h 55 4) + v1) ≤ 9999 → Vw G jX6_draw 23 [some (.ref 55), some (.int v1), some (.int 0)] [] (pI h 55 5 0) Q) ∧ (¬ ((gI h 55 4) + v1) ≤ 9999 → Vw G jX6_draw 23 [some (.ref 55), some (.int v1), some (.int 0)] [] (pI h 55 5 1) Q)) : Vw G jX6_draw 0 [some (.ref 55), some (.int v1), none] [] h Q :=
  s_aload_n dX6_draw_0 rfl (s_aload_n dX6_draw_1 rfl (s_getI dX6_draw_2 flX6_47 (Or.inl rfl) (hi.sh rfl rfl) (s_iload_n dX6_draw_5 rfl (s_iadd dX6_draw_6 (s_sipush 9999 dX6_draw_7 (by decide) (s_icmp_le 17 dX6_draw_10 rfl (fun q6 => s_iconst 0 dX6_draw_17 (by decide) (s_putZ dX6_draw_18 flX6_54 ff6_5 rfl (hi.sh rfl rfl) (by decide) (s_iconst 0 dX6_draw_21 (by decide) (s_istore_n dX6_draw_22 (Nat.le_of_ble_eq_true rfl) rfl ((K.1 q6)))))) (fun q6 => s_iconst 1 dX6_draw_13 (by decide) (s_goto 18 dX6_draw_14 rfl (s_putZ dX6_draw_18 flX6_54 ff6_5 rfl (hi.sh rfl rfl) (by decide) (s_iconst 0 dX6_draw_21 (by decide) (s_istore_n dX6_draw_22 (Nat.le_of_ble_eq_true rfl) rfl ((K.2 q6)))))))))))))
theorem bX6_draw_23 {G : GX} {h : mH} {Q : mO → mH → Prop} {v1 : Int32} {v2 : Int32} (hi : Iv h) (K : (v1 ≤ v2 → Q (.inl none) h) ∧ (¬ v1 ≤ v2 → ((¬ (gI h 55 5) = 0 → Q (.inl none) h) ∧ ((gI h 55 5) = 0 → WM G jX6_cell [.ref 55] h (Aft G jX6_draw 37 [some (.ref 55), some (.int v1), some (.int v2)] [.ref 55] Q))))) : Vw G jX6_draw 23 [some (.ref 55), some (.int v1), some (.int v2)] [] h Q :=
  s_iload_n dX6_draw_23 rfl (s_iload_n dX6_draw_24 rfl (s_icmp_ge 59 dX6_draw_25 rfl (fun q2 => s_return dX6_draw_59 rfl (K.1 q2)) (fun q2 => s_aload_n dX6_draw_28 rfl (s_getI dX6_draw_29 flX6_54 (Or.inr rfl) (hi.sh rfl rfl) (s_if_ne 59 dX6_draw_32 rfl (fun q5 => s_return dX6_draw_59 rfl ((K.2 q2).1 q5)) (fun q5 => s_aload_n dX6_draw_35 rfl (s_aload_n dX6_draw_36 rfl (s_callV (As := []) dX6_draw_37 rfl lvX6_92 ⟨Nat.le_of_ble_eq_true rfl, Nat.le_of_ble_eq_true rfl⟩ (hi.sh rfl rfl) ⟨_, _, by decide, rfl⟩ rfl (Nat.le_of_ble_eq_true rfl) (((K.2 q2).2 q5))))))))))
theorem bX6_draw_40 {G : GX} {h : mH} {Q : mO → mH → Prop} {v1 : Int32} {v2 : Int32} {vs0 : Int32} (hi : Iv h) (K : WM G jX6_mark [.ref 55, .int vs0] h (Aft G jX6_draw 40 [some (.ref 55), some (.int v1), some (.int v2)] [] Q)) : Vw G jX6_draw 40 [some (.ref 55), some (.int v1), some (.int v2)] [.int vs0, .ref 55] h Q :=
  s_callV (As := [.int vs0]) dX6_draw_40 rfl lvX6_96 ⟨Nat.le_of_ble_eq_true rfl, Nat.le_of_ble_eq_true rfl⟩ (hi.sh rfl rfl) ⟨_, _, by decide, rfl⟩ rfl (Nat.le_of_ble_eq_true rfl) (K)
theorem bX6_draw_43 {G : GX} {h : mH} {Q : mO → mH → Prop} {v1 : Int32} {v2 : Int32} (hi : Iv h) (K : Vw G jX6_draw 23 [some (.ref 55), some (.int v1), some (.int (v2 + 1))] [] (pI h 55 4 ((gI h 55 4) + 1)) Q) : Vw G jX6_draw 43 [some (.ref 55), some (.int v1), some (.int v2)] [] h Q :=
  s_aload_n dX6_draw_43 rfl (s_dupr dX6_draw_44 (s_getI dX6_draw_45 flX6_47 (Or.inl rfl) (hi.sh rfl rfl) (s_iconst 1 dX6_draw_48 (by decide) (s_iadd dX6_draw_49 (s_putI dX6_draw_50 flX6_47 ff6_4 rfl (hi.sh rfl rfl) (s_iinc 1 dX6_draw_53 rfl (by decide) (Nat.le_of_ble_eq_true rfl) rfl (s_goto 23 dX6_draw_56 rfl (K))))))))
theorem eX6_draw {G : GX} {h : mH} {Q : mO → mH → Prop} {v1 : Int32} (hi : Iv h) (K : (((gI h 55 4) + v1) ≤ 9999 → Vw G jX6_draw 23 [some (.ref 55), some (.int v1), some (.int 0)] [] (pI h 55 5 0) Q) ∧ (¬ ((gI h 55 4) + v1) ≤ 9999 → Vw G jX6_draw 23 [some (.ref 55), some (.int v1), some (.int 0)] [] (pI h 55 5 1) Q)) : WM G jX6_draw [.ref 55, .int v1] h Q :=
  WM.body (ls := [some (.ref 55), some (.int v1), none]) rfl (by decide +kernel) rfl (Nat.le_of_ble_eq_true rfl) rfl ((bX6_draw_0 hi  K))
theorem dX6_lift_0 : decode cX6_lift 0 = .ok (.aload_n 0, 1) := by decide +kernel
theorem dX6_lift_1 : decode cX6_lift 1 = .ok (.aload_n 0, 1) := by decide +kernel
theorem dX6_lift_2 : decode cX6_lift 2 = .ok (.getfield 47, 3) := by decide +kernel
theorem dX6_lift_5 : decode cX6_lift 5 = .ok (.iload_n 1, 1) := by decide +kernel
theorem dX6_lift_6 : decode cX6_lift 6 = .ok (.iadd, 1) := by decide +kernel
theorem dX6_lift_7 : decode cX6_lift 7 = .ok (.sipush 9999, 3) := by decide +kernel
theorem dX6_lift_10 : decode cX6_lift 10 = .ok (.if_icmp .le 7, 3) := by decide +kernel
theorem dX6_lift_13 : decode cX6_lift 13 = .ok (.iconst 1, 1) := by decide +kernel
theorem dX6_lift_14 : decode cX6_lift 14 = .ok (.goto 4, 3) := by decide +kernel
theorem dX6_lift_17 : decode cX6_lift 17 = .ok (.iconst 0, 1) := by decide +kernel
theorem dX6_lift_18 : decode cX6_lift 18 = .ok (.putfield 54, 3) := by decide +kernel
theorem dX6_lift_21 : decode cX6_lift 21 = .ok (.aload_n 0, 1) := by decide +kernel
theorem dX6_lift_22 : decode cX6_lift 22 = .ok (.getfield 54, 3) := by decide +kernel
theorem dX6_lift_25 : decode cX6_lift 25 = .ok (.ifCond .ne 13, 3) := by decide +kernel
theorem dX6_lift_28 : decode cX6_lift 28 = .ok (.aload_n 0, 1) := by decide +kernel
theorem dX6_lift_29 : decode cX6_lift 29 = .ok (.dup, 1) := by decide +kernel
theorem dX6_lift_30 : decode cX6_lift 30 = .ok (.getfield 47, 3) := by decide +kernel
theorem dX6_lift_33 : decode cX6_lift 33 = .ok (.iload_n 1, 1) := by decide +kernel
theorem dX6_lift_34 : decode cX6_lift 34 = .ok (.iadd, 1) := by decide +kernel
theorem dX6_lift_35 : decode cX6_lift 35 = .ok (.putfield 47, 3) := by decide +kernel
theorem dX6_lift_38 : decode cX6_lift 38 = .ok (.return_, 1) := by decide +kernel
theorem bX6_lift_0 {G : GX} {h : mH} {Q : mO → mH → Prop} {v1 : Int32} (hi : Iv h) (K : (((gI h 55 4) + v1) ≤ 9999 → ((¬ (gI (pI h 55 5 0) 55 5) = 0 → Q (.inl none) (pI h 55 5 0)) ∧ ((gI (pI h 55 5 0) 55 5) = 0 → Q (.inl none) (pI (pI h 55 5 0) 55 4 ((gI (pI h 55 5 0) 55 4) + v1))))) ∧ (¬ ((gI h 55 4) + v1) ≤ 9999 → ((¬ (gI (pI h 55 5 1) 55 5) = 0 → Q (.inl none) (pI h 55 5 1)) ∧ ((gI (pI h 55 5 1) 55 5) = 0 → Q (.inl none) (pI (pI h 55 5 1) 55 4 ((gI (pI h 55 5 1) 55 4) + v1)))))) : Vw G jX6_lift 0 [some (.ref 55), some (.int v1)] [] h Q :=
  s_aload_n dX6_lift_0 rfl (s_aload_n dX6_lift_1 rfl (s_getI dX6_lift_2 flX6_47 (Or.inl rfl) (hi.sh rfl rfl) (s_iload_n dX6_lift_5 rfl (s_iadd dX6_lift_6 (s_sipush 9999 dX6_lift_7 (by decide) (s_icmp_le 17 dX6_lift_10 rfl (fun q6 => s_iconst 0 dX6_lift_17 (by decide) (s_putZ dX6_lift_18 flX6_54 ff6_5 rfl (hi.sh rfl rfl) (by decide) (s_aload_n dX6_lift_21 rfl (s_getI dX6_lift_22 flX6_54 (Or.inr rfl) (hi.sh rfl rfl) (s_if_ne 38 dX6_lift_25 rfl (fun q11 => s_return dX6_lift_38 rfl ((K.1 q6).1 q11)) (fun q11 => s_aload_n dX6_lift_28 rfl (s_dupr dX6_lift_29 (s_getI dX6_lift_30 flX6_47 (Or.inl rfl) (hi.sh rfl rfl) (s_iload_n dX6_lift_33 rfl (s_iadd dX6_lift_34 (s_putI dX6_lift_35 flX6_47 ff6_4 rfl (hi.sh rfl rfl) (s_return dX6_lift_38 rfl ((K.1 q6).2 q11))))))))))))) (fun q6 => s_iconst 1 dX6_lift_13 (by decide) (s_goto 18 dX6_lift_14 rfl (s_putZ dX6_lift_18 flX6_54 ff6_5 rfl (hi.sh rfl rfl) (by decide) (s_aload_n dX6_lift_21 rfl (s_getI dX6_lift_22 flX6_54 (Or.inr rfl) (hi.sh rfl rfl) (s_if_ne 38 dX6_lift_25 rfl (fun q12 => s_return dX6_lift_38 rfl ((K.2 q6).1 q12)) (fun q12 => s_aload_n dX6_lift_28 rfl (s_dupr dX6_lift_29 (s_getI dX6_lift_30 flX6_47 (Or.inl rfl) (hi.sh rfl rfl) (s_iload_n dX6_lift_33 rfl (s_iadd dX6_lift_34 (s_putI dX6_lift_35 flX6_47 ff6_4 rfl (hi.sh rfl rfl) (s_return dX6_lift_38 rfl ((K.2 q6).2 q12))))))))))))))))))))
theorem eX6_lift {G : GX} {h : mH} {Q : mO → mH → Prop} {v1 : Int32} (hi : Iv h) (K : (((gI h 55 4) + v1) ≤ 9999 → ((¬ (gI (pI h 55 5 0) 55 5) = 0 → Q (.inl none) (pI h 55 5 0)) ∧ ((gI (pI h 55 5 0) 55 5) = 0 → Q (.inl none) (pI (pI h 55 5 0) 55 4 ((gI (pI h 55 5 0) 55 4) + v1))))) ∧ (¬ ((gI h 55 4) + v1) ≤ 9999 → ((¬ (gI (pI h 55 5 1) 55 5) = 0 → Q (.inl none) (pI h 55 5 1)) ∧ ((gI (pI h 55 5 1) 55 5) = 0 → Q (.inl none) (pI (pI h 55 5 1) 55 4 ((gI (pI h 55 5 1) 55 4) + v1)))))) : WM G jX6_lift [.ref 55, .int v1] h Q :=
  WM.body (ls := [some (.ref 55), some (.int v1)]) rfl (by decide +kernel) rfl (Nat.le_of_ble_eq_true rfl) rfl ((bX6_lift_0 hi  K))
theorem dX6_alter_0 : decode cX6_alter 0 = .ok (.iload_n 1, 1) := by decide +kernel
theorem dX6_alter_1 : decode cX6_alter 1 = .ok (.ifCond .lt 37, 3) := by decide +kernel
theorem dX6_alter_4 : decode cX6_alter 4 = .ok (.iload_n 1, 1) := by decide +kernel
theorem dX6_alter_5 : decode cX6_alter 5 = .ok (.bipush 12, 2) := by decide +kernel
theorem dX6_alter_7 : decode cX6_alter 7 = .ok (.if_icmp .ge 31, 3) := by decide +kernel
theorem dX6_alter_10 : decode cX6_alter 10 = .ok (.aload_n 0, 1) := by decide +kernel
theorem dX6_alter_11 : decode cX6_alter 11 = .ok (.getfield 12, 3) := by decide +kernel
theorem dX6_alter_14 : decode cX6_alter 14 = .ok (.getfield 102, 3) := by decide +kernel
theorem dX6_alter_17 : decode cX6_alter 17 = .ok (.iload_n 1, 1) := by decide +kernel
theorem dX6_alter_18 : decode cX6_alter 18 = .ok (.iconst 0, 1) := by decide +kernel
theorem dX6_alter_19 : decode cX6_alter 19 = .ok (.aload_n 0, 1) := by decide +kernel
theorem dX6_alter_20 : decode cX6_alter 20 = .ok (.getfield 12, 3) := by decide +kernel
theorem dX6_alter_23 : decode cX6_alter 23 = .ok (.getfield 102, 3) := by decide +kernel
theorem dX6_alter_26 : decode cX6_alter 26 = .ok (.iload_n 1, 1) := by decide +kernel
theorem dX6_alter_27 : decode cX6_alter 27 = .ok (.iaload, 1) := by decide +kernel
theorem dX6_alter_28 : decode cX6_alter 28 = .ok (.iload_n 2, 1) := by decide +kernel
theorem dX6_alter_29 : decode cX6_alter 29 = .ok (.iadd, 1) := by decide +kernel
theorem dX6_alter_30 : decode cX6_alter 30 = .ok (.iload_n 3, 1) := by decide +kernel
theorem dX6_alter_31 : decode cX6_alter 31 = .ok (.invokestatic 105, 3) := by decide +kernel
theorem dX6_alter_34 : decode cX6_alter 34 = .ok (.invokestatic 111, 3) := by decide +kernel
theorem dX6_alter_37 : decode cX6_alter 37 = .ok (.iastore, 1) := by decide +kernel
theorem dX6_alter_38 : decode cX6_alter 38 = .ok (.return_, 1) := by decide +kernel
theorem bX6_alter_0 {G : GX} {h : mH} {Q : mO → mH → Prop} {v1 : Int32} {v2 : Int32} {v3 : Int32} (hi : Iv h) (K : (v1 < 0 → Q (.inl none) h) ∧ (¬ v1 < 0 → ((12 ≤ v1 → Q (.inl none) h) ∧ (¬ 12 ≤ v1 → (vp_in v1 12 ∧ (vp_in v1 12 ∧ Q (.inl none) (pI h 60 (Int32.toNatClampNeg v1) (fJ9_max_7cf53 0 (fJ9_min_7cf53 ((gI h 60 (Int32.toNatClampNeg v1)) + v2) v3))))))))) : Vw G jX6_alter 0 [some (.ref 55), some (.int v1), some (.int v2), some (.int v3)] [] h Q :=
  s_iload_n dX6_alter_0 rfl (s_if_lt 38 dX6_alter_1 rfl (fun q1 => s_return dX6_alter_38 rfl (K.1 q1)) (fun q1 => s_iload_n dX6_alter_4 rfl (s_bipush 12 dX6_alter_5 (by decide) (s_icmp_ge 38 dX6_alter_7 rfl (fun q4 => s_return dX6_alter_38 rfl ((K.2 q1).1 q4)) (fun q4 => s_aload_n dX6_alter_10 rfl (s_getR (v := .ref 56) dX6_alter_11 flX6_12 rfl (hi.sh rfl rfl) (hi.rf (o := 55) (k := 0) (d := 1) rfl rfl) (s_getR (v := .ref 60) dX6_alter_14 flX6_102 rfl (hi.sh rfl rfl) (hi.rf (o := 56) (k := 3) (d := 4) rfl rfl) (s_iload_n dX6_alter_17 rfl (s_iconst 0 dX6_alter_18 (by decide) (s_aload_n dX6_alter_19 rfl (s_getR (v := .ref 56) dX6_alter_20 flX6_12 rfl (hi.sh rfl rfl) (hi.rf (o := 55) (k := 0) (d := 1) rfl rfl) (s_getR (v := .ref 60) dX6_alter_23 flX6_102 rfl (hi.sh rfl rfl) (hi.rf (o := 56) (k := 3) (d := 4) rfl rfl) (s_iload_n dX6_alter_26 rfl (s_iaload dX6_alter_27 (hi.sh rfl rfl) ((K.2 q1).2 q4).1 (s_iload_n dX6_alter_28 rfl (s_iadd dX6_alter_29 (s_iload_n dX6_alter_30 rfl (s_callS (As := [.int ((gI h 60 (Int32.toNatClampNeg v1)) + v2), .int v3]) dX6_alter_31 rfl lsX6_105 ⟨Nat.le_of_ble_eq_true rfl, Nat.le_of_ble_eq_true rfl⟩ rfl (Nat.le_of_ble_eq_true rfl) (mJ9_min_7cf53   (s_callS (As := [.int 0, .int (fJ9_min_7cf53 ((gI h 60 (Int32.toNatClampNeg v1)) + v2) v3)]) dX6_alter_34 rfl lsX6_111 ⟨Nat.le_of_ble_eq_true rfl, Nat.le_of_ble_eq_true rfl⟩ rfl (Nat.le_of_ble_eq_true rfl) (mJ9_max_7cf53   (s_iastore dX6_alter_37 (hi.sh rfl rfl) ((K.2 q1).2 q4).2.1 (s_return dX6_alter_38 rfl ((K.2 q1).2 q4).2.2)))))))))))))))))))))))
theorem eX6_alter {G : GX} {h : mH} {Q : mO → mH → Prop} {v1 : Int32} {v2 : Int32} {v3 : Int32} (hi : Iv h) (K : (v1 < 0 → Q (.inl none) h) ∧ (¬ v1 < 0 → ((12 ≤ v1 → Q (.inl none) h) ∧ (¬ 12 ≤ v1 → (vp_in v1 12 ∧ (vp_in v1 12 ∧ Q (.inl none) (pI h 60 (Int32.toNatClampNeg v1) (fJ9_max_7cf53 0 (fJ9_min_7cf53 ((gI h 60 (Int32.toNatClampNeg v1)) + v2) v3))))))))) : WM G jX6_alter [.ref 55, .int v1, .int v2, .int v3] h Q :=
  WM.body (ls := [some (.ref 55), some (.int v1), some (.int v2), some (.int v3)]) rfl (by decide +kernel) rfl (Nat.le_of_ble_eq_true rfl) rfl ((bX6_alter_0 hi  K))
theorem dX6_holds_0 : decode cX6_holds 0 = .ok (.iload_n 1, 1) := by decide +kernel
theorem dX6_holds_1 : decode cX6_holds 1 = .ok (.tableswitch 118 0 2 #[27, 54, 86], 27) := by decide +kernel
theorem dX6_holds_28 : decode cX6_holds 28 = .ok (.aload_n 0, 1) := by decide +kernel
theorem dX6_holds_29 : decode cX6_holds 29 = .ok (.invokevirtual 92, 3) := by decide +kernel
theorem dX6_holds_32 : decode cX6_holds 32 = .ok (.istore_n 2, 1) := by decide +kernel
theorem dX6_holds_33 : decode cX6_holds 33 = .ok (.iload_n 2, 1) := by decide +kernel
theorem dX6_holds_34 : decode cX6_holds 34 = .ok (.invokestatic 99, 3) := by decide +kernel
theorem dX6_holds_37 : decode cX6_holds 37 = .ok (.ifCond .eq 16, 3) := by decide +kernel
theorem dX6_holds_40 : decode cX6_holds 40 = .ok (.aload_n 0, 1) := by decide +kernel
theorem dX6_holds_41 : decode cX6_holds 41 = .ok (.getfield 18, 3) := by decide +kernel
theorem dX6_holds_44 : decode cX6_holds 44 = .ok (.iload_n 2, 1) := by decide +kernel
theorem dX6_holds_45 : decode cX6_holds 45 = .ok (.iaload, 1) := by decide +kernel
theorem dX6_holds_46 : decode cX6_holds 46 = .ok (.ifCond .le 7, 3) := by decide +kernel
theorem dX6_holds_49 : decode cX6_holds 49 = .ok (.iconst 1, 1) := by decide +kernel
theorem dX6_holds_50 : decode cX6_holds 50 = .ok (.goto 4, 3) := by decide +kernel
theorem dX6_holds_53 : decode cX6_holds 53 = .ok (.iconst 0, 1) := by decide +kernel
theorem dX6_holds_54 : decode cX6_holds 54 = .ok (.ireturn, 1) := by decide +kernel
theorem dX6_holds_55 : decode cX6_holds 55 = .ok (.aload_n 0, 1) := by decide +kernel
theorem dX6_holds_56 : decode cX6_holds 56 = .ok (.getfield 12, 3) := by decide +kernel
theorem dX6_holds_59 : decode cX6_holds 59 = .ok (.aload_n 0, 1) := by decide +kernel
theorem dX6_holds_60 : decode cX6_holds 60 = .ok (.getfield 47, 3) := by decide +kernel
theorem dX6_holds_63 : decode cX6_holds 63 = .ok (.aload_n 0, 1) := by decide +kernel
theorem dX6_holds_64 : decode cX6_holds 64 = .ok (.getfield 50, 3) := by decide +kernel
theorem dX6_holds_67 : decode cX6_holds 67 = .ok (.ifCond .eq 7, 3) := by decide +kernel
theorem dX6_holds_70 : decode cX6_holds 70 = .ok (.iconst 1, 1) := by decide +kernel
theorem dX6_holds_71 : decode cX6_holds 71 = .ok (.goto 4, 3) := by decide +kernel
theorem dX6_holds_74 : decode cX6_holds 74 = .ok (.iconst 0, 1) := by decide +kernel
theorem dX6_holds_75 : decode cX6_holds 75 = .ok (.invokevirtual 114, 3) := by decide +kernel
theorem dX6_holds_78 : decode cX6_holds 78 = .ok (.ifCond .le 7, 3) := by decide +kernel
theorem dX6_holds_81 : decode cX6_holds 81 = .ok (.iconst 1, 1) := by decide +kernel
theorem dX6_holds_82 : decode cX6_holds 82 = .ok (.goto 4, 3) := by decide +kernel
theorem dX6_holds_85 : decode cX6_holds 85 = .ok (.iconst 0, 1) := by decide +kernel
theorem dX6_holds_86 : decode cX6_holds 86 = .ok (.ireturn, 1) := by decide +kernel
theorem dX6_holds_87 : decode cX6_holds 87 = .ok (.aload_n 0, 1) := by decide +kernel
theorem dX6_holds_88 : decode cX6_holds 88 = .ok (.getfield 12, 3) := by decide +kernel
theorem dX6_holds_91 : decode cX6_holds 91 = .ok (.aload_n 0, 1) := by decide +kernel
theorem dX6_holds_92 : decode cX6_holds 92 = .ok (.getfield 47, 3) := by decide +kernel
theorem dX6_holds_95 : decode cX6_holds 95 = .ok (.aload_n 0, 1) := by decide +kernel
theorem dX6_holds_96 : decode cX6_holds 96 = .ok (.getfield 50, 3) := by decide +kernel
theorem dX6_holds_99 : decode cX6_holds 99 = .ok (.ifCond .eq 7, 3) := by decide +kernel
theorem dX6_holds_102 : decode cX6_holds 102 = .ok (.iconst 0, 1) := by decide +kernel
theorem dX6_holds_103 : decode cX6_holds 103 = .ok (.goto 4, 3) := by decide +kernel
theorem dX6_holds_106 : decode cX6_holds 106 = .ok (.iconst 1, 1) := by decide +kernel
theorem dX6_holds_107 : decode cX6_holds 107 = .ok (.invokevirtual 114, 3) := by decide +kernel
theorem dX6_holds_110 : decode cX6_holds 110 = .ok (.ifCond .le 7, 3) := by decide +kernel
theorem dX6_holds_113 : decode cX6_holds 113 = .ok (.iconst 1, 1) := by decide +kernel
theorem dX6_holds_114 : decode cX6_holds 114 = .ok (.goto 4, 3) := by decide +kernel
theorem dX6_holds_117 : decode cX6_holds 117 = .ok (.iconst 0, 1) := by decide +kernel
theorem dX6_holds_118 : decode cX6_holds 118 = .ok (.ireturn, 1) := by decide +kernel
theorem dX6_holds_119 : decode cX6_holds 119 = .ok (.iload_n 1, 1) := by decide +kernel
theorem dX6_holds_120 : decode cX6_holds 120 = .ok (.iconst 3, 1) := by decide +kernel
theorem dX6_holds_121 : decode cX6_holds 121 = .ok (.isub, 1) := by decide +kernel
theorem dX6_holds_122 : decode cX6_holds 122 = .ok (.istore_n 3, 1) := by decide +kernel
theorem dX6_holds_123 : decode cX6_holds 123 = .ok (.iload_n 3, 1) := by decide +kernel
theorem dX6_holds_124 : decode cX6_holds 124 = .ok (.ifCond .lt 27, 3) := by decide +kernel
theorem dX6_holds_127 : decode cX6_holds 127 = .ok (.iload_n 3, 1) := by decide +kernel
theorem dX6_holds_128 : decode cX6_holds 128 = .ok (.iconst 4, 1) := by decide +kernel
theorem dX6_holds_129 : decode cX6_holds 129 = .ok (.if_icmp .ge 22, 3) := by decide +kernel
theorem dX6_holds_132 : decode cX6_holds 132 = .ok (.aload_n 0, 1) := by decide +kernel
theorem dX6_holds_133 : decode cX6_holds 133 = .ok (.getfield 12, 3) := by decide +kernel
theorem dX6_holds_136 : decode cX6_holds 136 = .ok (.iload_n 3, 1) := by decide +kernel
theorem dX6_holds_137 : decode cX6_holds 137 = .ok (.aload_n 0, 1) := by decide +kernel
theorem dX6_holds_138 : decode cX6_holds 138 = .ok (.getfield 47, 3) := by decide +kernel
theorem dX6_holds_141 : decode cX6_holds 141 = .ok (.invokevirtual 117, 3) := by decide +kernel
theorem dX6_holds_144 : decode cX6_holds 144 = .ok (.ifCond .eq 7, 3) := by decide +kernel
theorem dX6_holds_147 : decode cX6_holds 147 = .ok (.iconst 1, 1) := by decide +kernel
theorem dX6_holds_148 : decode cX6_holds 148 = .ok (.goto 4, 3) := by decide +kernel
theorem dX6_holds_151 : decode cX6_holds 151 = .ok (.iconst 0, 1) := by decide +kernel
theorem dX6_holds_152 : decode cX6_holds 152 = .ok (.ireturn, 1) := by decide +kernel
theorem bX6_holds_0 {G : GX} {h : mH} {Q : mO → mH → Prop} {v1 : Int32} (hi : Iv h) (K : (v1 = 0 → WM G jX6_cell [.ref 55] h (Aft G jX6_holds 29 [some (.ref 55), none, none, none] [] Q)) ∧ (v1 = 1 → (((gI h 55 6) = 0 → WM G jX2_penAt [.ref 56, .int (gI h 55 4), .int 0] h (Aft G jX6_holds 75 [none, none, none, none] [] Q)) ∧ (¬ (gI h 55 6) = 0 → WM G jX2_penAt [.ref 56, .int (gI h 55 4), .int 1] h (Aft G jX6_holds 75 [none, none, none, none] [] Q)))) ∧ (v1 = 2 → (((gI h 55 6) = 0 → WM G jX2_penAt [.ref 56, .int (gI h 55 4), .int 1] h (Aft G jX6_holds 107 [none, none, none, none] [] Q)) ∧ (¬ (gI h 55 6) = 0 → WM G jX2_penAt [.ref 56, .int (gI h 55 4), .int 0] h (Aft G jX6_holds 107 [none, none, none, none] [] Q)))) ∧ (¬ v1 = 0 → ¬ v1 = 1 → ¬ v1 = 2 → (((v1 - 3) < 0 → Q (.inl (some (.int 0))) h) ∧ (¬ (v1 - 3) < 0 → ((4 ≤ (v1 - 3) → Q (.inl (some (.int 0))) h) ∧ (¬ 4 ≤ (v1 - 3) → WM G jX2_where [.ref 56, .int (v1 - 3), .int (gI h 55 4)] h (Aft G jX6_holds 141 [none, none, none, none] [] Q))))))) : Vw G jX6_holds 0 [some (.ref 55), some (.int v1), none, none] [] h Q :=
  s_iload_n dX6_holds_0 rfl (Decidable.byCases (fun e1_0 => s_tableIn 28 dX6_holds_1 (by rw [e1_0] <;> decide) (by rw [e1_0] <;> decide) (by rw [e1_0] <;> rfl) rfl (s_aload_n dX6_holds_28 rfl (Vw.mask [true, false, false, false] (s_callV (As := []) dX6_holds_29 rfl lvX6_92 ⟨Nat.le_of_ble_eq_true rfl, Nat.le_of_ble_eq_true rfl⟩ (hi.sh rfl rfl) ⟨_, _, by decide, rfl⟩ rfl (Nat.le_of_ble_eq_true rfl) ((K.1 e1_0)))))) (fun e1_0 => Decidable.byCases (fun e1_1 => s_tableIn 55 dX6_holds_1 (by rw [e1_1] <;> decide) (by rw [e1_1] <;> decide) (by rw [e1_1] <;> rfl) rfl (s_aload_n dX6_holds_55 rfl (s_getR (v := .ref 56) dX6_holds_56 flX6_12 rfl (hi.sh rfl rfl) (hi.rf (o := 55) (k := 0) (d := 1) rfl rfl) (s_aload_n dX6_holds_59 rfl (s_getI dX6_holds_60 flX6_47 (Or.inl rfl) (hi.sh rfl rfl) (s_aload_n dX6_holds_63 rfl (s_getI dX6_holds_64 flX6_50 (Or.inr rfl) (hi.sh rfl rfl) (s_if_eq 74 dX6_holds_67 rfl (fun q8 => s_iconst 0 dX6_holds_74 (by decide) (Vw.mask [false, false, false, false] (s_callV (As := [.int (gI h 55 4), .int 0]) dX6_holds_75 rfl lvX6_114 ⟨Nat.le_of_ble_eq_true rfl, Nat.le_of_ble_eq_true rfl⟩ (hi.sh rfl rfl) ⟨_, _, by decide, rfl⟩ rfl (Nat.le_of_ble_eq_true rfl) (((K.2.1 e1_1).1 q8))))) (fun q8 => s_iconst 1 dX6_holds_70 (by decide) (s_goto 75 dX6_holds_71 rfl (Vw.mask [false, false, false, false] (s_callV (As := [.int (gI h 55 4), .int 1]) dX6_holds_75 rfl lvX6_114 ⟨Nat.le_of_ble_eq_true rfl, Nat.le_of_ble_eq_true rfl⟩ (hi.sh rfl rfl) ⟨_, _, by decide, rfl⟩ rfl (Nat.le_of_ble_eq_true rfl) (((K.2.1 e1_1).2 q8)))))))))))))) (fun e1_1 => Decidable.byCases (fun e1_2 => s_tableIn 87 dX6_holds_1 (by rw [e1_2] <;> decide) (by rw [e1_2] <;> decide) (by rw [e1_2] <;> rfl) rfl (s_aload_n dX6_holds_87 rfl (s_getR (v := .ref 56) dX6_holds_88 flX6_12 rfl (hi.sh rfl rfl) (hi.rf (o := 55) (k := 0) (d := 1) rfl rfl) (s_aload_n dX6_holds_91 rfl (s_getI dX6_holds_92 flX6_47 (Or.inl rfl) (hi.sh rfl rfl) (s_aload_n dX6_holds_95 rfl (s_getI dX6_holds_96 flX6_50 (Or.inr rfl) (hi.sh rfl rfl) (s_if_eq 106 dX6_holds_99 rfl (fun q8 => s_iconst 1 dX6_holds_106 (by decide) (Vw.mask [false, false, false, false] (s_callV (As := [.int (gI h 55 4), .int 1]) dX6_holds_107 rfl lvX6_114 ⟨Nat.le_of_ble_eq_true rfl, Nat.le_of_ble_eq_true rfl⟩ (hi.sh rfl rfl) ⟨_, _, by decide, rfl⟩ rfl (Nat.le_of_ble_eq_true rfl) (((K.2.2.1 e1_2).1 q8))))) (fun q8 => s_iconst 0 dX6_holds_102 (by decide) (s_goto 107 dX6_holds_103 rfl (Vw.mask [false, false, false, false] (s_callV (As := [.int (gI h 55 4), .int 0]) dX6_holds_107 rfl lvX6_114 ⟨Nat.le_of_ble_eq_true rfl, Nat.le_of_ble_eq_true rfl⟩ (hi.sh rfl rfl) ⟨_, _, by decide, rfl⟩ rfl (Nat.le_of_ble_eq_true rfl) (((K.2.2.1 e1_2).2 q8)))))))))))))) (fun e1_2 => s_tableOut 119 dX6_holds_1 (sw_out [0, 1, 2] (by simp only [List.forall_mem_cons]; exact ⟨e1_0, e1_1, e1_2, fun _ hh => nomatch hh⟩) (fun k z1 z2 => by rcases (show k = 0 ∨ k = 1 ∨ k = 2 by omega) with rfl | rfl | rfl <;> decide)) rfl (s_iload_n dX6_holds_119 rfl (s_iconst 3 dX6_holds_120 (by decide) (s_isub dX6_holds_121 (s_istore_n dX6_holds_122 (Nat.le_of_ble_eq_true rfl) rfl (s_iload_n dX6_holds_123 rfl (s_if_lt 151 dX6_holds_124 rfl (fun q7 => s_iconst 0 dX6_holds_151 (by decide) (s_zreturn dX6_holds_152 rfl (by decide) ((K.2.2.2 e1_0 e1_1 e1_2).1 q7))) (fun q7 => s_iload_n dX6_holds_127 rfl (s_iconst 4 dX6_holds_128 (by decide) (s_icmp_ge 151 dX6_holds_129 rfl (fun q10 => s_iconst 0 dX6_holds_151 (by decide) (s_zreturn dX6_holds_152 rfl (by decide) (((K.2.2.2 e1_0 e1_1 e1_2).2 q7).1 q10))) (fun q10 => s_aload_n dX6_holds_132 rfl (s_getR (v := .ref 56) dX6_holds_133 flX6_12 rfl (hi.sh rfl rfl) (hi.rf (o := 55) (k := 0) (d := 1) rfl rfl) (s_iload_n dX6_holds_136 rfl (s_aload_n dX6_holds_137 rfl (s_getI dX6_holds_138 flX6_47 (Or.inl rfl) (hi.sh rfl rfl) (Vw.mask [false, false, false, false] (s_callV (As := [.int (v1 - 3), .int (gI h 55 4)]) dX6_holds_141 rfl lvX6_117 ⟨Nat.le_of_ble_eq_true rfl, Nat.le_of_ble_eq_true rfl⟩ (hi.sh rfl rfl) ⟨_, _, by decide, rfl⟩ rfl (Nat.le_of_ble_eq_true rfl) ((((K.2.2.2 e1_0 e1_1 e1_2).2 q7).2 q10))))))))))))))))))))))
theorem bX6_holds_32 {G : GX} {h : mH} {Q : mO → mH → Prop} {vs0 : Int32} (hi : Iv h) (K : ((fX10_isCell vs0) = 0 → Q (.inl (some (.int 0))) h) ∧ (¬ (fX10_isCell vs0) = 0 → (vp_in vs0 729 ∧ (((gI h 66 (Int32.toNatClampNeg vs0)) ≤ 0 → Q (.inl (some (.int 0))) h) ∧ (¬ (gI h 66 (Int32.toNatClampNeg vs0)) ≤ 0 → Q (.inl (some (.int 1))) h))))) : Vw G jX6_holds 32 [some (.ref 55), none, none, none] [.int vs0] h Q :=
  s_istore_n dX6_holds_32 (Nat.le_of_ble_eq_true rfl) rfl (s_iload_n dX6_holds_33 rfl (s_callSN (As := [.int vs0]) dX6_holds_34 rfl lnX6_99 w_967 ⟨Nat.le_of_ble_eq_true rfl, Nat.le_of_ble_eq_true rfl⟩ rfl (Nat.le_of_ble_eq_true rfl) (mX10_isCell   (s_if_eq 53 dX6_holds_37 rfl (fun q3 => s_iconst 0 dX6_holds_53 (by decide) (s_zreturn dX6_holds_54 rfl (by decide) (K.1 q3))) (fun q3 => s_aload_n dX6_holds_40 rfl (s_getR (v := .ref 66) dX6_holds_41 flX6_18 rfl (hi.sh rfl rfl) (hi.rf (o := 55) (k := 1) (d := 11) rfl rfl) (s_iload_n dX6_holds_44 rfl (s_iaload dX6_holds_45 (hi.sh rfl rfl) (K.2 q3).1 (s_if_le 53 dX6_holds_46 rfl (fun q8 => s_iconst 0 dX6_holds_53 (by decide) (s_zreturn dX6_holds_54 rfl (by decide) ((K.2 q3).2.1 q8))) (fun q8 => s_iconst 1 dX6_holds_49 (by decide) (s_goto 54 dX6_holds_50 rfl (s_zreturn dX6_holds_54 rfl (by decide) ((K.2 q3).2.2 q8)))))))))))))
theorem bX6_holds_78 {G : GX} {h : mH} {Q : mO → mH → Prop} {vs0 : Int32} (hi : Iv h) (K : (vs0 ≤ 0 → Q (.inl (some (.int 0))) h) ∧ (¬ vs0 ≤ 0 → Q (.inl (some (.int 1))) h)) : Vw G jX6_holds 78 [none, none, none, none] [.int vs0] h Q :=
  s_if_le 85 dX6_holds_78 rfl (fun q0 => s_iconst 0 dX6_holds_85 (by decide) (s_zreturn dX6_holds_86 rfl (by decide) (K.1 q0))) (fun q0 => s_iconst 1 dX6_holds_81 (by decide) (s_goto 86 dX6_holds_82 rfl (s_zreturn dX6_holds_86 rfl (by decide) (K.2 q0))))
theorem bX6_holds_110 {G : GX} {h : mH} {Q : mO → mH → Prop} {vs0 : Int32} (hi : Iv h) (K : (vs0 ≤ 0 → Q (.inl (some (.int 0))) h) ∧ (¬ vs0 ≤ 0 → Q (.inl (some (.int 1))) h)) : Vw G jX6_holds 110 [none, none, none, none] [.int vs0] h Q :=
  s_if_le 117 dX6_holds_110 rfl (fun q0 => s_iconst 0 dX6_holds_117 (by decide) (s_zreturn dX6_holds_118 rfl (by decide) (K.1 q0))) (fun q0 => s_iconst 1 dX6_holds_113 (by decide) (s_goto 118 dX6_holds_114 rfl (s_zreturn dX6_holds_118 rfl (by decide) (K.2 q0))))
theorem bX6_holds_144 {G : GX} {h : mH} {Q : mO → mH → Prop} {vs0 : Int32} (hi : Iv h) (K : (vs0 = 0 → Q (.inl (some (.int 0))) h) ∧ (¬ vs0 = 0 → Q (.inl (some (.int 1))) h)) : Vw G jX6_holds 144 [none, none, none, none] [.int vs0] h Q :=
  s_if_eq 151 dX6_holds_144 rfl (fun q0 => s_iconst 0 dX6_holds_151 (by decide) (s_zreturn dX6_holds_152 rfl (by decide) (K.1 q0))) (fun q0 => s_iconst 1 dX6_holds_147 (by decide) (s_goto 152 dX6_holds_148 rfl (s_zreturn dX6_holds_152 rfl (by decide) (K.2 q0))))
theorem eX6_holds {G : GX} {h : mH} {Q : mO → mH → Prop} {v1 : Int32} (hi : Iv h) (K : (v1 = 0 → WM G jX6_cell [.ref 55] h (Aft G jX6_holds 29 [some (.ref 55), none, none, none] [] Q)) ∧ (v1 = 1 → (((gI h 55 6) = 0 → WM G jX2_penAt [.ref 56, .int (gI h 55 4), .int 0] h (Aft G jX6_holds 75 [none, none, none, none] [] Q)) ∧ (¬ (gI h 55 6) = 0 → WM G jX2_penAt [.ref 56, .int (gI h 55 4), .int 1] h (Aft G jX6_holds 75 [none, none, none, none] [] Q)))) ∧ (v1 = 2 → (((gI h 55 6) = 0 → WM G jX2_penAt [.ref 56, .int (gI h 55 4), .int 1] h (Aft G jX6_holds 107 [none, none, none, none] [] Q)) ∧ (¬ (gI h 55 6) = 0 → WM G jX2_penAt [.ref 56, .int (gI h 55 4), .int 0] h (Aft G jX6_holds 107 [none, none, none, none] [] Q)))) ∧ (¬ v1 = 0 → ¬ v1 = 1 → ¬ v1 = 2 → (((v1 - 3) < 0 → Q (.inl (some (.int 0))) h) ∧ (¬ (v1 - 3) < 0 → ((4 ≤ (v1 - 3) → Q (.inl (some (.int 0))) h) ∧ (¬ 4 ≤ (v1 - 3) → WM G jX2_where [.ref 56, .int (v1 - 3), .int (gI h 55 4)] h (Aft G jX6_holds 141 [none, none, none, none] [] Q))))))) : WM G jX6_holds [.ref 55, .int v1] h Q :=
  WM.body (ls := [some (.ref 55), some (.int v1), none, none]) rfl (by decide +kernel) rfl (Nat.le_of_ble_eq_true rfl) rfl ((bX6_holds_0 hi  K))
theorem dX6_goesAside_0 : decode cX6_goesAside 0 = .ok (.aload_n 1, 1) := by decide +kernel
theorem dX6_goesAside_1 : decode cX6_goesAside 1 = .ok (.getfield 71, 3) := by decide +kernel
theorem dX6_goesAside_4 : decode cX6_goesAside 4 = .ok (.iload_n 2, 1) := by decide +kernel
theorem dX6_goesAside_5 : decode cX6_goesAside 5 = .ok (.iaload, 1) := by decide +kernel
theorem dX6_goesAside_6 : decode cX6_goesAside 6 = .ok (.istore_n 3, 1) := by decide +kernel
theorem dX6_goesAside_7 : decode cX6_goesAside 7 = .ok (.aload_n 1, 1) := by decide +kernel
theorem dX6_goesAside_8 : decode cX6_goesAside 8 = .ok (.getfield 61, 3) := by decide +kernel
theorem dX6_goesAside_11 : decode cX6_goesAside 11 = .ok (.iload_n 2, 1) := by decide +kernel
theorem dX6_goesAside_12 : decode cX6_goesAside 12 = .ok (.iaload, 1) := by decide +kernel
theorem dX6_goesAside_13 : decode cX6_goesAside 13 = .ok (.tableswitch 182 0 7 #[47, 54, 61, 76, 94, 112, 129, 157], 47) := by decide +kernel
theorem dX6_goesAside_60 : decode cX6_goesAside 60 = .ok (.aload_n 0, 1) := by decide +kernel
theorem dX6_goesAside_61 : decode cX6_goesAside 61 = .ok (.iload_n 3, 1) := by decide +kernel
theorem dX6_goesAside_62 : decode cX6_goesAside 62 = .ok (.invokevirtual 74, 3) := by decide +kernel
theorem dX6_goesAside_65 : decode cX6_goesAside 65 = .ok (.iconst 0, 1) := by decide +kernel
theorem dX6_goesAside_66 : decode cX6_goesAside 66 = .ok (.ireturn, 1) := by decide +kernel
theorem dX6_goesAside_67 : decode cX6_goesAside 67 = .ok (.aload_n 0, 1) := by decide +kernel
theorem dX6_goesAside_68 : decode cX6_goesAside 68 = .ok (.iload_n 3, 1) := by decide +kernel
theorem dX6_goesAside_69 : decode cX6_goesAside 69 = .ok (.invokevirtual 78, 3) := by decide +kernel
theorem dX6_goesAside_72 : decode cX6_goesAside 72 = .ok (.iconst 0, 1) := by decide +kernel
theorem dX6_goesAside_73 : decode cX6_goesAside 73 = .ok (.ireturn, 1) := by decide +kernel
theorem dX6_goesAside_74 : decode cX6_goesAside 74 = .ok (.aload_n 0, 1) := by decide +kernel
theorem dX6_goesAside_75 : decode cX6_goesAside 75 = .ok (.iload_n 3, 1) := by decide +kernel
theorem dX6_goesAside_76 : decode cX6_goesAside 76 = .ok (.aload_n 1, 1) := by decide +kernel
theorem dX6_goesAside_77 : decode cX6_goesAside 77 = .ok (.getfield 81, 3) := by decide +kernel
theorem dX6_goesAside_80 : decode cX6_goesAside 80 = .ok (.iload_n 2, 1) := by decide +kernel
theorem dX6_goesAside_81 : decode cX6_goesAside 81 = .ok (.iaload, 1) := by decide +kernel
theorem dX6_goesAside_82 : decode cX6_goesAside 82 = .ok (.bipush 9, 2) := by decide +kernel
theorem dX6_goesAside_84 : decode cX6_goesAside 84 = .ok (.invokevirtual 84, 3) := by decide +kernel
theorem dX6_goesAside_87 : decode cX6_goesAside 87 = .ok (.iconst 0, 1) := by decide +kernel
theorem dX6_goesAside_88 : decode cX6_goesAside 88 = .ok (.ireturn, 1) := by decide +kernel
theorem dX6_goesAside_89 : decode cX6_goesAside 89 = .ok (.aload_n 0, 1) := by decide +kernel
theorem dX6_goesAside_90 : decode cX6_goesAside 90 = .ok (.bipush 8, 2) := by decide +kernel
theorem dX6_goesAside_92 : decode cX6_goesAside 92 = .ok (.iload_n 3, 1) := by decide +kernel
theorem dX6_goesAside_93 : decode cX6_goesAside 93 = .ok (.iadd, 1) := by decide +kernel
theorem dX6_goesAside_94 : decode cX6_goesAside 94 = .ok (.aload_n 1, 1) := by decide +kernel
theorem dX6_goesAside_95 : decode cX6_goesAside 95 = .ok (.getfield 81, 3) := by decide +kernel
theorem dX6_goesAside_98 : decode cX6_goesAside 98 = .ok (.iload_n 2, 1) := by decide +kernel
theorem dX6_goesAside_99 : decode cX6_goesAside 99 = .ok (.iaload, 1) := by decide +kernel
theorem dX6_goesAside_100 : decode cX6_goesAside 100 = .ok (.bipush 90, 2) := by decide +kernel
theorem dX6_goesAside_102 : decode cX6_goesAside 102 = .ok (.invokevirtual 84, 3) := by decide +kernel
theorem dX6_goesAside_105 : decode cX6_goesAside 105 = .ok (.iconst 0, 1) := by decide +kernel
theorem dX6_goesAside_106 : decode cX6_goesAside 106 = .ok (.ireturn, 1) := by decide +kernel
theorem dX6_goesAside_107 : decode cX6_goesAside 107 = .ok (.aload_n 0, 1) := by decide +kernel
theorem dX6_goesAside_108 : decode cX6_goesAside 108 = .ok (.aload_n 0, 1) := by decide +kernel
theorem dX6_goesAside_109 : decode cX6_goesAside 109 = .ok (.getfield 50, 3) := by decide +kernel
theorem dX6_goesAside_112 : decode cX6_goesAside 112 = .ok (.ifCond .ne 7, 3) := by decide +kernel
theorem dX6_goesAside_115 : decode cX6_goesAside 115 = .ok (.iconst 1, 1) := by decide +kernel
theorem dX6_goesAside_116 : decode cX6_goesAside 116 = .ok (.goto 4, 3) := by decide +kernel
theorem dX6_goesAside_119 : decode cX6_goesAside 119 = .ok (.iconst 0, 1) := by decide +kernel
theorem dX6_goesAside_120 : decode cX6_goesAside 120 = .ok (.putfield 50, 3) := by decide +kernel
theorem dX6_goesAside_123 : decode cX6_goesAside 123 = .ok (.iconst 0, 1) := by decide +kernel
theorem dX6_goesAside_124 : decode cX6_goesAside 124 = .ok (.ireturn, 1) := by decide +kernel
theorem dX6_goesAside_125 : decode cX6_goesAside 125 = .ok (.aload_n 0, 1) := by decide +kernel
theorem dX6_goesAside_126 : decode cX6_goesAside 126 = .ok (.getfield 24, 3) := by decide +kernel
theorem dX6_goesAside_129 : decode cX6_goesAside 129 = .ok (.iload_n 2, 1) := by decide +kernel
theorem dX6_goesAside_130 : decode cX6_goesAside 130 = .ok (.iload_n 3, 1) := by decide +kernel
theorem dX6_goesAside_131 : decode cX6_goesAside 131 = .ok (.iastore, 1) := by decide +kernel
theorem dX6_goesAside_132 : decode cX6_goesAside 132 = .ok (.iload_n 3, 1) := by decide +kernel
theorem dX6_goesAside_133 : decode cX6_goesAside 133 = .ok (.ifCond .ne 7, 3) := by decide +kernel
theorem dX6_goesAside_136 : decode cX6_goesAside 136 = .ok (.iconst 1, 1) := by decide +kernel
theorem dX6_goesAside_137 : decode cX6_goesAside 137 = .ok (.goto 4, 3) := by decide +kernel
theorem dX6_goesAside_140 : decode cX6_goesAside 140 = .ok (.iconst 0, 1) := by decide +kernel
theorem dX6_goesAside_141 : decode cX6_goesAside 141 = .ok (.ireturn, 1) := by decide +kernel
theorem dX6_goesAside_142 : decode cX6_goesAside 142 = .ok (.aload_n 0, 1) := by decide +kernel
theorem dX6_goesAside_143 : decode cX6_goesAside 143 = .ok (.iload_n 3, 1) := by decide +kernel
theorem dX6_goesAside_144 : decode cX6_goesAside 144 = .ok (.invokevirtual 88, 3) := by decide +kernel
theorem dX6_goesAside_147 : decode cX6_goesAside 147 = .ok (.aload_n 1, 1) := by decide +kernel
theorem dX6_goesAside_148 : decode cX6_goesAside 148 = .ok (.getfield 81, 3) := by decide +kernel
theorem dX6_goesAside_151 : decode cX6_goesAside 151 = .ok (.iload_n 2, 1) := by decide +kernel
theorem dX6_goesAside_152 : decode cX6_goesAside 152 = .ok (.iaload, 1) := by decide +kernel
theorem dX6_goesAside_153 : decode cX6_goesAside 153 = .ok (.ifCond .ne 7, 3) := by decide +kernel
theorem dX6_goesAside_156 : decode cX6_goesAside 156 = .ok (.iconst 1, 1) := by decide +kernel
theorem dX6_goesAside_157 : decode cX6_goesAside 157 = .ok (.goto 4, 3) := by decide +kernel
theorem dX6_goesAside_160 : decode cX6_goesAside 160 = .ok (.iconst 0, 1) := by decide +kernel
theorem dX6_goesAside_161 : decode cX6_goesAside 161 = .ok (.if_icmp .eq 7, 3) := by decide +kernel
theorem dX6_goesAside_164 : decode cX6_goesAside 164 = .ok (.iconst 1, 1) := by decide +kernel
theorem dX6_goesAside_165 : decode cX6_goesAside 165 = .ok (.goto 4, 3) := by decide +kernel
theorem dX6_goesAside_168 : decode cX6_goesAside 168 = .ok (.iconst 0, 1) := by decide +kernel
theorem dX6_goesAside_169 : decode cX6_goesAside 169 = .ok (.ireturn, 1) := by decide +kernel
theorem dX6_goesAside_170 : decode cX6_goesAside 170 = .ok (.aload_n 0, 1) := by decide +kernel
theorem dX6_goesAside_171 : decode cX6_goesAside 171 = .ok (.getfield 24, 3) := by decide +kernel
theorem dX6_goesAside_174 : decode cX6_goesAside 174 = .ok (.iload_n 3, 1) := by decide +kernel
theorem dX6_goesAside_175 : decode cX6_goesAside 175 = .ok (.dup2, 1) := by decide +kernel
theorem dX6_goesAside_176 : decode cX6_goesAside 176 = .ok (.iaload, 1) := by decide +kernel
theorem dX6_goesAside_177 : decode cX6_goesAside 177 = .ok (.iconst 1, 1) := by decide +kernel
theorem dX6_goesAside_178 : decode cX6_goesAside 178 = .ok (.isub, 1) := by decide +kernel
theorem dX6_goesAside_179 : decode cX6_goesAside 179 = .ok (.iastore, 1) := by decide +kernel
theorem dX6_goesAside_180 : decode cX6_goesAside 180 = .ok (.aload_n 0, 1) := by decide +kernel
theorem dX6_goesAside_181 : decode cX6_goesAside 181 = .ok (.getfield 24, 3) := by decide +kernel
theorem dX6_goesAside_184 : decode cX6_goesAside 184 = .ok (.iload_n 3, 1) := by decide +kernel
theorem dX6_goesAside_185 : decode cX6_goesAside 185 = .ok (.iaload, 1) := by decide +kernel
theorem dX6_goesAside_186 : decode cX6_goesAside 186 = .ok (.ifCond .le 7, 3) := by decide +kernel
theorem dX6_goesAside_189 : decode cX6_goesAside 189 = .ok (.iconst 1, 1) := by decide +kernel
theorem dX6_goesAside_190 : decode cX6_goesAside 190 = .ok (.goto 4, 3) := by decide +kernel
theorem dX6_goesAside_193 : decode cX6_goesAside 193 = .ok (.iconst 0, 1) := by decide +kernel
theorem dX6_goesAside_194 : decode cX6_goesAside 194 = .ok (.ireturn, 1) := by decide +kernel
theorem dX6_goesAside_195 : decode cX6_goesAside 195 = .ok (.iconst 1, 1) := by decide +kernel
theorem dX6_goesAside_196 : decode cX6_goesAside 196 = .ok (.ireturn, 1) := by decide +kernel
theorem bX6_goesAside_0 {G : GX} {h : mH} {Q : mO → mH → Prop} {r1 : Nat} {v2 : Int32} (hi : Iv h) (k1 : kd r1 = (7, 7)) (K : vp_in v2 100 ∧ (vp_in v2 100 ∧ (((gI h (r1 + 1) (Int32.toNatClampNeg v2)) = 0 → WM G jX6_draw [.ref 55, .int (gI h (r1 + 2) (Int32.toNatClampNeg v2))] h (Aft G jX6_goesAside 62 [none, none, none, none] [] Q)) ∧ ((gI h (r1 + 1) (Int32.toNatClampNeg v2)) = 1 → WM G jX6_lift [.ref 55, .int (gI h (r1 + 2) (Int32.toNatClampNeg v2))] h (Aft G jX6_goesAside 69 [none, none, none, none] [] Q)) ∧ ((gI h (r1 + 1) (Int32.toNatClampNeg v2)) = 2 → (vp_in v2 100 ∧ WM G jX6_alter [.ref 55, .int (gI h (r1 + 2) (Int32.toNatClampNeg v2)), .int (gI h (r1 + 3) (Int32.toNatClampNeg v2)), .int 9] h (Aft G jX6_goesAside 84 [none, none, none, none] [] Q))) ∧ ((gI h (r1 + 1) (Int32.toNatClampNeg v2)) = 3 → (vp_in v2 100 ∧ WM G jX6_alter [.ref 55, .int (8 + (gI h (r1 + 2) (Int32.toNatClampNeg v2))), .int (gI h (r1 + 3) (Int32.toNatClampNeg v2)), .int 90] h (Aft G jX6_goesAside 102 [none, none, none, none] [] Q))) ∧ ((gI h (r1 + 1) (Int32.toNatClampNeg v2)) = 4 → ((¬ (gI h 55 6) = 0 → Q (.inl (some (.int 0))) (pI h 55 6 0)) ∧ ((gI h 55 6) = 0 → Q (.inl (some (.int 0))) (pI h 55 6 1)))) ∧ ((gI h (r1 + 1) (Int32.toNatClampNeg v2)) = 5 → (vp_in v2 100 ∧ ((¬ (gI h (r1 + 2) (Int32.toNatClampNeg v2)) = 0 → Q (.inl (some (.int 0))) (pI h 67 (Int32.toNatClampNeg v2) (gI h (r1 + 2) (Int32.toNatClampNeg v2)))) ∧ ((gI h (r1 + 2) (Int32.toNatClampNeg v2)) = 0 → Q (.inl (some (.int 1))) (pI h 67 (Int32.toNatClampNeg v2) (gI h (r1 + 2) (Int32.toNatClampNeg v2))))))) ∧ ((gI h (r1 + 1) (Int32.toNatClampNeg v2)) = 6 → WM G jX6_holds [.ref 55, .int (gI h (r1 + 2) (Int32.toNatClampNeg v2))] h (Aft G jX6_goesAside 144 [none, some (.ref r1), some (.int v2), none] [] Q)) ∧ ((gI h (r1 + 1) (Int32.toNatClampNeg v2)) = 7 → (vp_in (gI h (r1 + 2) (Int32.toNatClampNeg v2)) 100 ∧ (vp_in (gI h (r1 + 2) (Int32.toNatClampNeg v2)) 100 ∧ (vp_in (gI h (r1 + 2) (Int32.toNatClampNeg v2)) 100 ∧ (((gI (pI h 67 (Int32.toNatClampNeg (gI h (r1 + 2) (Int32.toNatClampNeg v2))) ((gI h 67 (Int32.toNatClampNeg (gI h (r1 + 2) (Int32.toNatClampNeg v2)))) - 1)) 67 (Int32.toNatClampNeg (gI h (r1 + 2) (Int32.toNatClampNeg v2)))) ≤ 0 → Q (.inl (some (.int 0))) (pI h 67 (Int32.toNatClampNeg (gI h (r1 + 2) (Int32.toNatClampNeg v2))) ((gI h 67 (Int32.toNatClampNeg (gI h (r1 + 2) (Int32.toNatClampNeg v2)))) - 1))) ∧ (¬ (gI (pI h 67 (Int32.toNatClampNeg (gI h (r1 + 2) (Int32.toNatClampNeg v2))) ((gI h 67 (Int32.toNatClampNeg (gI h (r1 + 2) (Int32.toNatClampNeg v2)))) - 1)) 67 (Int32.toNatClampNeg (gI h (r1 + 2) (Int32.toNatClampNeg v2)))) ≤ 0 → Q (.inl (some (.int 1))) (pI h 67 (Int32.toNatClampNeg (gI h (r1 + 2) (Int32.toNatClampNeg v2))) ((gI h 67 (Int32.toNatClampNeg (gI h (r1 + 2) (Int32.toNatClampNeg v2)))) - 1)))))))) ∧ (¬ (gI h (r1 + 1) (Int32.toNatClampNeg v2)) = 0 → ¬ (gI h (r1 + 1) (Int32.toNatClampNeg v2)) = 1 → ¬ (gI h (r1 + 1) (Int32.toNatClampNeg v2)) = 2 → ¬ (gI h (r1 + 1) (Int32.toNatClampNeg v2)) = 3 → ¬ (gI h (r1 + 1) (Int32.toNatClampNeg v2)) = 4 → ¬ (gI h (r1 + 1) (Int32.toNatClampNeg v2)) = 5 → ¬ (gI h (r1 + 1) (Int32.toNatClampNeg v2)) = 6 → ¬ (gI h (r1 + 1) (Int32.toNatClampNeg v2)) = 7 → Q (.inl (some (.int 1))) h)))) : Vw G jX6_goesAside 0 [some (.ref 55), some (.ref r1), some (.int v2), none] [] h Q :=
  s_aload_n dX6_goesAside_0 rfl (s_getR (v := .ref (r1 + 2)) dX6_goesAside_1 flX6_71 rfl (hi.sh k1 rfl) (hi.rf (o := r1) (k := 1) (d := 2) k1 rfl) (s_iload_n dX6_goesAside_4 rfl (s_iaload dX6_goesAside_5 (hi.sh (kd7_1 k1) rfl) K.1 (s_istore_n dX6_goesAside_6 (Nat.le_of_ble_eq_true rfl) rfl (s_aload_n dX6_goesAside_7 rfl (s_getR (v := .ref (r1 + 1)) dX6_goesAside_8 flX6_61 rfl (hi.sh k1 rfl) (hi.rf (o := r1) (k := 0) (d := 1) k1 rfl) (s_iload_n dX6_goesAside_11 rfl (s_iaload dX6_goesAside_12 (hi.sh (kd7_0 k1) rfl) K.2.1 (Decidable.byCases (fun e9_0 => s_tableIn 60 dX6_goesAside_13 (by rw [e9_0] <;> decide) (by rw [e9_0] <;> decide) (by rw [e9_0] <;> rfl) rfl (s_aload_n dX6_goesAside_60 rfl (s_iload_n dX6_goesAside_61 rfl (Vw.mask [false, false, false, false] (s_callV (As := [.int (gI h (r1 + 2) (Int32.toNatClampNeg v2))]) dX6_goesAside_62 rfl lvX6_74 ⟨Nat.le_of_ble_eq_true rfl, Nat.le_of_ble_eq_true rfl⟩ (hi.sh rfl rfl) ⟨_, _, by decide, rfl⟩ rfl (Nat.le_of_ble_eq_true rfl) ((K.2.2.1 e9_0))))))) (fun e9_0 => Decidable.byCases (fun e9_1 => s_tableIn 67 dX6_goesAside_13 (by rw [e9_1] <;> decide) (by rw [e9_1] <;> decide) (by rw [e9_1] <;> rfl) rfl (s_aload_n dX6_goesAside_67 rfl (s_iload_n dX6_goesAside_68 rfl (Vw.mask [false, false, false, false] (s_callV (As := [.int (gI h (r1 + 2) (Int32.toNatClampNeg v2))]) dX6_goesAside_69 rfl lvX6_78 ⟨Nat.le_of_ble_eq_true rfl, Nat.le_of_ble_eq_true rfl⟩ (hi.sh rfl rfl) ⟨_, _, by decide, rfl⟩ rfl (Nat.le_of_ble_eq_true rfl) ((K.2.2.2.1 e9_1))))))) (fun e9_1 => Decidable.byCases (fun e9_2 => s_tableIn 74 dX6_goesAside_13 (by rw [e9_2] <;> decide) (by rw [e9_2] <;> decide) (by rw [e9_2] <;> rfl) rfl (s_aload_n dX6_goesAside_74 rfl (s_iload_n dX6_goesAside_75 rfl (s_aload_n dX6_goesAside_76 rfl (s_getR (v := .ref (r1 + 3)) dX6_goesAside_77 flX6_81 rfl (hi.sh k1 rfl) (hi.rf (o := r1) (k := 2) (d := 3) k1 rfl) (s_iload_n dX6_goesAside_80 rfl (s_iaload dX6_goesAside_81 (hi.sh (kd7_2 k1) rfl) (K.2.2.2.2.1 e9_2).1 (s_bipush 9 dX6_goesAside_82 (by decide) (Vw.mask [false, false, false, false] (s_callV (As := [.int (gI h (r1 + 2) (Int32.toNatClampNeg v2)), .int (gI h (r1 + 3) (Int32.toNatClampNeg v2)), .int 9]) dX6_goesAside_84 rfl lvX6_84 ⟨Nat.le_of_ble_eq_true rfl, Nat.le_of_ble_eq_true rfl⟩ (hi.sh rfl rfl) ⟨_, _, by decide, rfl⟩ rfl (Nat.le_of_ble_eq_true rfl) ((K.2.2.2.2.1 e9_2).2))))))))))) (fun e9_2 => Decidable.byCases (fun e9_3 => s_tableIn 89 dX6_goesAside_13 (by rw [e9_3] <;> decide) (by rw [e9_3] <;> decide) (by rw [e9_3] <;> rfl) rfl (s_aload_n dX6_goesAside_89 rfl (s_bipush 8 dX6_goesAside_90 (by decide) (s_iload_n dX6_goesAside_92 rfl (s_iadd dX6_goesAside_93 (s_aload_n dX6_goesAside_94 rfl (s_getR (v := .ref (r1 + 3)) dX6_goesAside_95 flX6_81 rfl (hi.sh k1 rfl) (hi.rf (o := r1) (k := 2) (d := 3) k1 rfl) (s_iload_n dX6_goesAside_98 rfl (s_iaload dX6_goesAside_99 (hi.sh (kd7_2 k1) rfl) (K.2.2.2.2.2.1 e9_3).1 (s_bipush 90 dX6_goesAside_100 (by decide) (Vw.mask [false, false, false, false] (s_callV (As := [.int (8 + (gI h (r1 + 2) (Int32.toNatClampNeg v2))), .int (gI h (r1 + 3) (Int32.toNatClampNeg v2)), .int 90]) dX6_goesAside_102 rfl lvX6_84 ⟨Nat.le_of_ble_eq_true rfl, Nat.le_of_ble_eq_true rfl⟩ (hi.sh rfl rfl) ⟨_, _, by decide, rfl⟩ rfl (Nat.le_of_ble_eq_true rfl) ((K.2.2.2.2.2.1 e9_3).2))))))))))))) (fun e9_3 => Decidable.byCases (fun e9_4 => s_tableIn 107 dX6_goesAside_13 (by rw [e9_4] <;> decide) (by rw [e9_4] <;> decide) (by rw [e9_4] <;> rfl) rfl (s_aload_n dX6_goesAside_107 rfl (s_aload_n dX6_goesAside_108 rfl (s_getI dX6_goesAside_109 flX6_50 (Or.inr rfl) (hi.sh rfl rfl) (s_if_ne 119 dX6_goesAside_112 rfl (fun q13 => s_iconst 0 dX6_goesAside_119 (by decide) (s_putZ dX6_goesAside_120 flX6_50 ff6_6 rfl (hi.sh rfl rfl) (by decide) (s_iconst 0 dX6_goesAside_123 (by decide) (s_zreturn dX6_goesAside_124 rfl (by decide) ((K.2.2.2.2.2.2.1 e9_4).1 q13))))) (fun q13 => s_iconst 1 dX6_goesAside_115 (by decide) (s_goto 120 dX6_goesAside_116 rfl (s_putZ dX6_goesAside_120 flX6_50 ff6_6 rfl (hi.sh rfl rfl) (by decide) (s_iconst 0 dX6_goesAside_123 (by decide) (s_zreturn dX6_goesAside_124 rfl (by decide) ((K.2.2.2.2.2.2.1 e9_4).2 q13))))))))))) (fun e9_4 => Decidable.byCases (fun e9_5 => s_tableIn 125 dX6_goesAside_13 (by rw [e9_5] <;> decide) (by rw [e9_5] <;> decide) (by rw [e9_5] <;> rfl) rfl (s_aload_n dX6_goesAside_125 rfl (s_getR (v := .ref 67) dX6_goesAside_126 flX6_24 rfl (hi.sh rfl rfl) (hi.rf (o := 55) (k := 7) (d := 12) rfl rfl) (s_iload_n dX6_goesAside_129 rfl (s_iload_n dX6_goesAside_130 rfl (s_iastore dX6_goesAside_131 (hi.sh rfl rfl) (K.2.2.2.2.2.2.2.1 e9_5).1 (s_iload_n dX6_goesAside_132 rfl (s_if_ne 140 dX6_goesAside_133 rfl (fun q16 => s_iconst 0 dX6_goesAside_140 (by decide) (s_zreturn dX6_goesAside_141 rfl (by decide) ((K.2.2.2.2.2.2.2.1 e9_5).2.1 q16))) (fun q16 => s_iconst 1 dX6_goesAside_136 (by decide) (s_goto 141 dX6_goesAside_137 rfl (s_zreturn dX6_goesAside_141 rfl (by decide) ((K.2.2.2.2.2.2.2.1 e9_5).2.2 q16)))))))))))) (fun e9_5 => Decidable.byCases (fun e9_6 => s_tableIn 142 dX6_goesAside_13 (by rw [e9_6] <;> decide) (by rw [e9_6] <;> decide) (by rw [e9_6] <;> rfl) rfl (s_aload_n dX6_goesAside_142 rfl (s_iload_n dX6_goesAside_143 rfl (Vw.mask [false, true, true, false] (s_callV (As := [.int (gI h (r1 + 2) (Int32.toNatClampNeg v2))]) dX6_goesAside_144 rfl lvX6_88 ⟨Nat.le_of_ble_eq_true rfl, Nat.le_of_ble_eq_true rfl⟩ (hi.sh rfl rfl) ⟨_, _, by decide, rfl⟩ rfl (Nat.le_of_ble_eq_true rfl) ((K.2.2.2.2.2.2.2.2.1 e9_6))))))) (fun e9_6 => Decidable.byCases (fun e9_7 => s_tableIn 170 dX6_goesAside_13 (by rw [e9_7] <;> decide) (by rw [e9_7] <;> decide) (by rw [e9_7] <;> rfl) rfl (s_aload_n dX6_goesAside_170 rfl (s_getR (v := .ref 67) dX6_goesAside_171 flX6_24 rfl (hi.sh rfl rfl) (hi.rf (o := 55) (k := 7) (d := 12) rfl rfl) (s_iload_n dX6_goesAside_174 rfl (s_dup2ir dX6_goesAside_175 (s_iaload dX6_goesAside_176 (hi.sh rfl rfl) (K.2.2.2.2.2.2.2.2.2.1 e9_7).1 (s_iconst 1 dX6_goesAside_177 (by decide) (s_isub dX6_goesAside_178 (s_iastore dX6_goesAside_179 (hi.sh rfl rfl) (K.2.2.2.2.2.2.2.2.2.1 e9_7).2.1 (s_aload_n dX6_goesAside_180 rfl (s_getR (v := .ref 67) dX6_goesAside_181 flX6_24 rfl (hi.sh rfl rfl) (hi.rf (o := 55) (k := 7) (d := 12) rfl rfl) (s_iload_n dX6_goesAside_184 rfl (s_iaload dX6_goesAside_185 (hi.sh rfl rfl) (K.2.2.2.2.2.2.2.2.2.1 e9_7).2.2.1 (s_if_le 193 dX6_goesAside_186 rfl (fun q22 => s_iconst 0 dX6_goesAside_193 (by decide) (s_zreturn dX6_goesAside_194 rfl (by decide) ((K.2.2.2.2.2.2.2.2.2.1 e9_7).2.2.2.1 q22))) (fun q22 => s_iconst 1 dX6_goesAside_189 (by decide) (s_goto 194 dX6_goesAside_190 rfl (s_zreturn dX6_goesAside_194 rfl (by decide) ((K.2.2.2.2.2.2.2.2.2.1 e9_7).2.2.2.2 q22)))))))))))))))))) (fun e9_7 => s_tableOut 195 dX6_goesAside_13 (sw_out [0, 1, 2, 3, 4, 5, 6, 7] (by simp only [List.forall_mem_cons]; exact ⟨e9_0, e9_1, e9_2, e9_3, e9_4, e9_5, e9_6, e9_7, fun _ hh => nomatch hh⟩) (fun k z1 z2 => by rcases (show k = 0 ∨ k = 1 ∨ k = 2 ∨ k = 3 ∨ k = 4 ∨ k = 5 ∨ k = 6 ∨ k = 7 by omega) with rfl | rfl | rfl | rfl | rfl | rfl | rfl | rfl <;> decide)) rfl (s_iconst 1 dX6_goesAside_195 (by decide) (s_zreturn dX6_goesAside_196 rfl (by decide) (K.2.2.2.2.2.2.2.2.2.2 e9_0 e9_1 e9_2 e9_3 e9_4 e9_5 e9_6 e9_7))))))))))))))))))))
theorem bX6_goesAside_65 {G : GX} {h : mH} {Q : mO → mH → Prop} (hi : Iv h) (K : Q (.inl (some (.int 0))) h) : Vw G jX6_goesAside 65 [none, none, none, none] [] h Q :=
  s_iconst 0 dX6_goesAside_65 (by decide) (s_zreturn dX6_goesAside_66 rfl (by decide) K)
theorem bX6_goesAside_72 {G : GX} {h : mH} {Q : mO → mH → Prop} (hi : Iv h) (K : Q (.inl (some (.int 0))) h) : Vw G jX6_goesAside 72 [none, none, none, none] [] h Q :=
  s_iconst 0 dX6_goesAside_72 (by decide) (s_zreturn dX6_goesAside_73 rfl (by decide) K)
theorem bX6_goesAside_87 {G : GX} {h : mH} {Q : mO → mH → Prop} (hi : Iv h) (K : Q (.inl (some (.int 0))) h) : Vw G jX6_goesAside 87 [none, none, none, none] [] h Q :=
  s_iconst 0 dX6_goesAside_87 (by decide) (s_zreturn dX6_goesAside_88 rfl (by decide) K)
theorem bX6_goesAside_105 {G : GX} {h : mH} {Q : mO → mH → Prop} (hi : Iv h) (K : Q (.inl (some (.int 0))) h) : Vw G jX6_goesAside 105 [none, none, none, none] [] h Q :=
  s_iconst 0 dX6_goesAside_105 (by decide) (s_zreturn dX6_goesAside_106 rfl (by decide) K)
theorem bX6_goesAside_147 {G : GX} {h : mH} {Q : mO → mH → Prop} {r1 : Nat} {v2 : Int32} {vs0 : Int32} (hi : Iv h) (k1 : kd r1 = (7, 7)) (K : vp_in v2 100 ∧ ((¬ (gI h (r1 + 3) (Int32.toNatClampNeg v2)) = 0 → ((vs0 = 0 → Q (.inl (some (.int 0))) h) ∧ (¬ vs0 = 0 → Q (.inl (some (.int 1))) h))) ∧ ((gI h (r1 + 3) (Int32.toNatClampNeg v2)) = 0 → ((vs0 = 1 → Q (.inl (some (.int 0))) h) ∧ (¬ vs0 = 1 → Q (.inl (some (.int 1))) h))))) : Vw G jX6_goesAside 147 [none, some (.ref r1), some (.int v2), none] [.int vs0] h Q :=
  s_aload_n dX6_goesAside_147 rfl (s_getR (v := .ref (r1 + 3)) dX6_goesAside_148 flX6_81 rfl (hi.sh k1 rfl) (hi.rf (o := r1) (k := 2) (d := 3) k1 rfl) (s_iload_n dX6_goesAside_151 rfl (s_iaload dX6_goesAside_152 (hi.sh (kd7_2 k1) rfl) K.1 (s_if_ne 160 dX6_goesAside_153 rfl (fun q4 => s_iconst 0 dX6_goesAside_160 (by decide) (s_icmp_eq 168 dX6_goesAside_161 rfl (fun q6 => s_iconst 0 dX6_goesAside_168 (by decide) (s_zreturn dX6_goesAside_169 rfl (by decide) ((K.2.1 q4).1 q6))) (fun q6 => s_iconst 1 dX6_goesAside_164 (by decide) (s_goto 169 dX6_goesAside_165 rfl (s_zreturn dX6_goesAside_169 rfl (by decide) ((K.2.1 q4).2 q6)))))) (fun q4 => s_iconst 1 dX6_goesAside_156 (by decide) (s_goto 161 dX6_goesAside_157 rfl (s_icmp_eq 168 dX6_goesAside_161 rfl (fun q7 => s_iconst 0 dX6_goesAside_168 (by decide) (s_zreturn dX6_goesAside_169 rfl (by decide) ((K.2.2 q4).1 q7))) (fun q7 => s_iconst 1 dX6_goesAside_164 (by decide) (s_goto 169 dX6_goesAside_165 rfl (s_zreturn dX6_goesAside_169 rfl (by decide) ((K.2.2 q4).2 q7)))))))))))
theorem eX6_goesAside {G : GX} {h : mH} {Q : mO → mH → Prop} {r1 : Nat} {v2 : Int32} (hi : Iv h) (k1 : kd r1 = (7, 7)) (K : vp_in v2 100 ∧ (vp_in v2 100 ∧ (((gI h (r1 + 1) (Int32.toNatClampNeg v2)) = 0 → WM G jX6_draw [.ref 55, .int (gI h (r1 + 2) (Int32.toNatClampNeg v2))] h (Aft G jX6_goesAside 62 [none, none, none, none] [] Q)) ∧ ((gI h (r1 + 1) (Int32.toNatClampNeg v2)) = 1 → WM G jX6_lift [.ref 55, .int (gI h (r1 + 2) (Int32.toNatClampNeg v2))] h (Aft G jX6_goesAside 69 [none, none, none, none] [] Q)) ∧ ((gI h (r1 + 1) (Int32.toNatClampNeg v2)) = 2 → (vp_in v2 100 ∧ WM G jX6_alter [.ref 55, .int (gI h (r1 + 2) (Int32.toNatClampNeg v2)), .int (gI h (r1 + 3) (Int32.toNatClampNeg v2)), .int 9] h (Aft G jX6_goesAside 84 [none, none, none, none] [] Q))) ∧ ((gI h (r1 + 1) (Int32.toNatClampNeg v2)) = 3 → (vp_in v2 100 ∧ WM G jX6_alter [.ref 55, .int (8 + (gI h (r1 + 2) (Int32.toNatClampNeg v2))), .int (gI h (r1 + 3) (Int32.toNatClampNeg v2)), .int 90] h (Aft G jX6_goesAside 102 [none, none, none, none] [] Q))) ∧ ((gI h (r1 + 1) (Int32.toNatClampNeg v2)) = 4 → ((¬ (gI h 55 6) = 0 → Q (.inl (some (.int 0))) (pI h 55 6 0)) ∧ ((gI h 55 6) = 0 → Q (.inl (some (.int 0))) (pI h 55 6 1)))) ∧ ((gI h (r1 + 1) (Int32.toNatClampNeg v2)) = 5 → (vp_in v2 100 ∧ ((¬ (gI h (r1 + 2) (Int32.toNatClampNeg v2)) = 0 → Q (.inl (some (.int 0))) (pI h 67 (Int32.toNatClampNeg v2) (gI h (r1 + 2) (Int32.toNatClampNeg v2)))) ∧ ((gI h (r1 + 2) (Int32.toNatClampNeg v2)) = 0 → Q (.inl (some (.int 1))) (pI h 67 (Int32.toNatClampNeg v2) (gI h (r1 + 2) (Int32.toNatClampNeg v2))))))) ∧ ((gI h (r1 + 1) (Int32.toNatClampNeg v2)) = 6 → WM G jX6_holds [.ref 55, .int (gI h (r1 + 2) (Int32.toNatClampNeg v2))] h (Aft G jX6_goesAside 144 [none, some (.ref r1), some (.int v2), none] [] Q)) ∧ ((gI h (r1 + 1) (Int32.toNatClampNeg v2)) = 7 → (vp_in (gI h (r1 + 2) (Int32.toNatClampNeg v2)) 100 ∧ (vp_in (gI h (r1 + 2) (Int32.toNatClampNeg v2)) 100 ∧ (vp_in (gI h (r1 + 2) (Int32.toNatClampNeg v2)) 100 ∧ (((gI (pI h 67 (Int32.toNatClampNeg (gI h (r1 + 2) (Int32.toNatClampNeg v2))) ((gI h 67 (Int32.toNatClampNeg (gI h (r1 + 2) (Int32.toNatClampNeg v2)))) - 1)) 67 (Int32.toNatClampNeg (gI h (r1 + 2) (Int32.toNatClampNeg v2)))) ≤ 0 → Q (.inl (some (.int 0))) (pI h 67 (Int32.toNatClampNeg (gI h (r1 + 2) (Int32.toNatClampNeg v2))) ((gI h 67 (Int32.toNatClampNeg (gI h (r1 + 2) (Int32.toNatClampNeg v2)))) - 1))) ∧ (¬ (gI (pI h 67 (Int32.toNatClampNeg (gI h (r1 + 2) (Int32.toNatClampNeg v2))) ((gI h 67 (Int32.toNatClampNeg (gI h (r1 + 2) (Int32.toNatClampNeg v2)))) - 1)) 67 (Int32.toNatClampNeg (gI h (r1 + 2) (Int32.toNatClampNeg v2)))) ≤ 0 → Q (.inl (some (.int 1))) (pI h 67 (Int32.toNatClampNeg (gI h (r1 + 2) (Int32.toNatClampNeg v2))) ((gI h 67 (Int32.toNatClampNeg (gI h (r1 + 2) (Int32.toNatClampNeg v2)))) - 1)))))))) ∧ (¬ (gI h (r1 + 1) (Int32.toNatClampNeg v2)) = 0 → ¬ (gI h (r1 + 1) (Int32.toNatClampNeg v2)) = 1 → ¬ (gI h (r1 + 1) (Int32.toNatClampNeg v2)) = 2 → ¬ (gI h (r1 + 1) (Int32.toNatClampNeg v2)) = 3 → ¬ (gI h (r1 + 1) (Int32.toNatClampNeg v2)) = 4 → ¬ (gI h (r1 + 1) (Int32.toNatClampNeg v2)) = 5 → ¬ (gI h (r1 + 1) (Int32.toNatClampNeg v2)) = 6 → ¬ (gI h (r1 + 1) (Int32.toNatClampNeg v2)) = 7 → Q (.inl (some (.int 1))) h)))) : WM G jX6_goesAside [.ref 55, .ref r1, .int v2] h Q :=
  WM.body (ls := [some (.ref 55), some (.ref r1), some (.int v2), none]) rfl (by decide +kernel) rfl (Nat.le_of_ble_eq_true rfl) rfl ((bX6_goesAside_0 hi k1 K))
theorem dX6_play_0 : decode cX6_play 0 = .ok (.aload_n 0, 1) := by decide +kernel
theorem dX6_play_1 : decode cX6_play 1 = .ok (.getfield 27, 3) := by decide +kernel
theorem dX6_play_4 : decode cX6_play 4 = .ok (.iload_n 3, 1) := by decide +kernel
theorem dX6_play_5 : decode cX6_play 5 = .ok (.if_icmp .ne 4, 3) := by decide +kernel
theorem dX6_play_8 : decode cX6_play 8 = .ok (.return_, 1) := by decide +kernel
theorem dX6_play_9 : decode cX6_play 9 = .ok (.aload_n 0, 1) := by decide +kernel
theorem dX6_play_10 : decode cX6_play 10 = .ok (.iload_n 3, 1) := by decide +kernel
theorem dX6_play_11 : decode cX6_play 11 = .ok (.putfield 27, 3) := by decide +kernel
theorem dX6_play_14 : decode cX6_play 14 = .ok (.aload_n 0, 1) := by decide +kernel
theorem dX6_play_15 : decode cX6_play 15 = .ok (.getfield 12, 3) := by decide +kernel
theorem dX6_play_18 : decode cX6_play 18 = .ok (.aload_n 2, 1) := by decide +kernel
theorem dX6_play_19 : decode cX6_play 19 = .ok (.invokevirtual 31, 3) := by decide +kernel
theorem dX6_play_22 : decode cX6_play 22 = .ok (.aload_n 0, 1) := by decide +kernel
theorem dX6_play_23 : decode cX6_play 23 = .ok (.getfield 18, 3) := by decide +kernel
theorem dX6_play_26 : decode cX6_play 26 = .ok (.iconst 0, 1) := by decide +kernel
theorem dX6_play_27 : decode cX6_play 27 = .ok (.invokestatic 35, 3) := by decide +kernel
theorem dX6_play_30 : decode cX6_play 30 = .ok (.aload_n 0, 1) := by decide +kernel
theorem dX6_play_31 : decode cX6_play 31 = .ok (.iconst 0, 1) := by decide +kernel
theorem dX6_play_32 : decode cX6_play 32 = .ok (.putfield 41, 3) := by decide +kernel
theorem dX6_play_35 : decode cX6_play 35 = .ok (.aload_n 0, 1) := by decide +kernel
theorem dX6_play_36 : decode cX6_play 36 = .ok (.iconst 0, 1) := by decide +kernel
theorem dX6_play_37 : decode cX6_play 37 = .ok (.putfield 44, 3) := by decide +kernel
theorem dX6_play_40 : decode cX6_play 40 = .ok (.aload_n 0, 1) := by decide +kernel
theorem dX6_play_41 : decode cX6_play 41 = .ok (.iconst 0, 1) := by decide +kernel
theorem dX6_play_42 : decode cX6_play 42 = .ok (.putfield 47, 3) := by decide +kernel
theorem dX6_play_45 : decode cX6_play 45 = .ok (.aload_n 0, 1) := by decide +kernel
theorem dX6_play_46 : decode cX6_play 46 = .ok (.iconst 0, 1) := by decide +kernel
theorem dX6_play_47 : decode cX6_play 47 = .ok (.putfield 50, 3) := by decide +kernel
theorem dX6_play_50 : decode cX6_play 50 = .ok (.aload_n 0, 1) := by decide +kernel
theorem dX6_play_51 : decode cX6_play 51 = .ok (.iconst 0, 1) := by decide +kernel
theorem dX6_play_52 : decode cX6_play 52 = .ok (.putfield 54, 3) := by decide +kernel
theorem dX6_play_55 : decode cX6_play 55 = .ok (.iconst 0, 1) := by decide +kernel
theorem dX6_play_56 : decode cX6_play 56 = .ok (.istore 4, 2) := by decide +kernel
theorem dX6_play_58 : decode cX6_play 58 = .ok (.iconst 0, 1) := by decide +kernel
theorem dX6_play_59 : decode cX6_play 59 = .ok (.istore 5, 2) := by decide +kernel
theorem dX6_play_61 : decode cX6_play 61 = .ok (.iload 5, 2) := by decide +kernel
theorem dX6_play_63 : decode cX6_play 63 = .ok (.ldc 57, 2) := by decide +kernel
theorem dX6_play_65 : decode cX6_play 65 = .ok (.if_icmp .ge 117, 3) := by decide +kernel
theorem dX6_play_68 : decode cX6_play 68 = .ok (.aload_n 0, 1) := by decide +kernel
theorem dX6_play_69 : decode cX6_play 69 = .ok (.getfield 54, 3) := by decide +kernel
theorem dX6_play_72 : decode cX6_play 72 = .ok (.ifCond .ne 110, 3) := by decide +kernel
theorem dX6_play_75 : decode cX6_play 75 = .ok (.iload 4, 2) := by decide +kernel
theorem dX6_play_77 : decode cX6_play 77 = .ok (.ifCond .lt 105, 3) := by decide +kernel
theorem dX6_play_80 : decode cX6_play 80 = .ok (.iload 4, 2) := by decide +kernel
theorem dX6_play_82 : decode cX6_play 82 = .ok (.aload_n 1, 1) := by decide +kernel
theorem dX6_play_83 : decode cX6_play 83 = .ok (.getfield 58, 3) := by decide +kernel
theorem dX6_play_86 : decode cX6_play 86 = .ok (.if_icmp .ge 96, 3) := by decide +kernel
theorem dX6_play_89 : decode cX6_play 89 = .ok (.aload_n 1, 1) := by decide +kernel
theorem dX6_play_90 : decode cX6_play 90 = .ok (.getfield 61, 3) := by decide +kernel
theorem dX6_play_93 : decode cX6_play 93 = .ok (.iload 4, 2) := by decide +kernel
theorem dX6_play_95 : decode cX6_play 95 = .ok (.iaload, 1) := by decide +kernel
theorem dX6_play_96 : decode cX6_play 96 = .ok (.bipush 7, 2) := by decide +kernel
theorem dX6_play_98 : decode cX6_play 98 = .ok (.if_icmp .ge 7, 3) := by decide +kernel
theorem dX6_play_101 : decode cX6_play 101 = .ok (.iconst 1, 1) := by decide +kernel
theorem dX6_play_102 : decode cX6_play 102 = .ok (.goto 4, 3) := by decide +kernel
theorem dX6_play_105 : decode cX6_play 105 = .ok (.iconst 0, 1) := by decide +kernel
theorem dX6_play_106 : decode cX6_play 106 = .ok (.istore 6, 2) := by decide +kernel
theorem dX6_play_108 : decode cX6_play 108 = .ok (.iload 6, 2) := by decide +kernel
theorem dX6_play_110 : decode cX6_play 110 = .ok (.ifCond .eq 21, 3) := by decide +kernel
theorem dX6_play_113 : decode cX6_play 113 = .ok (.aload_n 0, 1) := by decide +kernel
theorem dX6_play_114 : decode cX6_play 114 = .ok (.getfield 44, 3) := by decide +kernel
theorem dX6_play_117 : decode cX6_play 117 = .ok (.sipush 1000, 3) := by decide +kernel
theorem dX6_play_120 : decode cX6_play 120 = .ok (.if_icmp .lt 11, 3) := by decide +kernel
theorem dX6_play_123 : decode cX6_play 123 = .ok (.aload_n 0, 1) := by decide +kernel
theorem dX6_play_124 : decode cX6_play 124 = .ok (.iconst 1, 1) := by decide +kernel
theorem dX6_play_125 : decode cX6_play 125 = .ok (.putfield 54, 3) := by decide +kernel
theorem dX6_play_128 : decode cX6_play 128 = .ok (.goto 48, 3) := by decide +kernel
theorem dX6_play_131 : decode cX6_play 131 = .ok (.aload_n 0, 1) := by decide +kernel
theorem dX6_play_132 : decode cX6_play 132 = .ok (.dup, 1) := by decide +kernel
theorem dX6_play_133 : decode cX6_play 133 = .ok (.getfield 44, 3) := by decide +kernel
theorem dX6_play_136 : decode cX6_play 136 = .ok (.iload 6, 2) := by decide +kernel
theorem dX6_play_138 : decode cX6_play 138 = .ok (.ifCond .eq 7, 3) := by decide +kernel
theorem dX6_play_141 : decode cX6_play 141 = .ok (.iconst 1, 1) := by decide +kernel
theorem dX6_play_142 : decode cX6_play 142 = .ok (.goto 4, 3) := by decide +kernel
theorem dX6_play_145 : decode cX6_play 145 = .ok (.iconst 0, 1) := by decide +kernel
theorem dX6_play_146 : decode cX6_play 146 = .ok (.iadd, 1) := by decide +kernel
theorem dX6_play_147 : decode cX6_play 147 = .ok (.putfield 44, 3) := by decide +kernel
theorem dX6_play_150 : decode cX6_play 150 = .ok (.aload_n 0, 1) := by decide +kernel
theorem dX6_play_151 : decode cX6_play 151 = .ok (.aload_n 1, 1) := by decide +kernel
theorem dX6_play_152 : decode cX6_play 152 = .ok (.iload 4, 2) := by decide +kernel
theorem dX6_play_154 : decode cX6_play 154 = .ok (.invokevirtual 64, 3) := by decide +kernel
theorem dX6_play_157 : decode cX6_play 157 = .ok (.ifCond .eq 13, 3) := by decide +kernel
theorem dX6_play_160 : decode cX6_play 160 = .ok (.aload_n 1, 1) := by decide +kernel
theorem dX6_play_161 : decode cX6_play 161 = .ok (.getfield 68, 3) := by decide +kernel
theorem dX6_play_164 : decode cX6_play 164 = .ok (.iload 4, 2) := by decide +kernel
theorem dX6_play_166 : decode cX6_play 166 = .ok (.iaload, 1) := by decide +kernel
theorem dX6_play_167 : decode cX6_play 167 = .ok (.goto 7, 3) := by decide +kernel
theorem dX6_play_170 : decode cX6_play 170 = .ok (.iload 4, 2) := by decide +kernel
theorem dX6_play_172 : decode cX6_play 172 = .ok (.iconst 1, 1) := by decide +kernel
theorem dX6_play_173 : decode cX6_play 173 = .ok (.iadd, 1) := by decide +kernel
theorem dX6_play_174 : decode cX6_play 174 = .ok (.istore 4, 2) := by decide +kernel
theorem dX6_play_176 : decode cX6_play 176 = .ok (.iinc 5 1, 3) := by decide +kernel
theorem dX6_play_179 : decode cX6_play 179 = .ok (.goto (-118), 3) := by decide +kernel
theorem dX6_play_182 : decode cX6_play 182 = .ok (.return_, 1) := by decide +kernel
theorem bX6_play_0 {G : GX} {h : mH} {Q : mO → mH → Prop} {r1 : Nat} {r2 : Nat} {v3 : Int32} (hi : Iv h) (k1 : kd r1 = (7, 7)) (k2 : kd r2 = (2, 11)) (K : (¬ (gI h 55 8) = v3 → WM G jX2_copy [.ref 56, .ref r2] (pI h 55 8 v3) (Aft G jX6_play 19 [some (.ref 55), some (.ref r1), none, none, none, none, none] [] Q)) ∧ ((gI h 55 8) = v3 → Q (.inl none) h)) : Vw G jX6_play 0 [some (.ref 55), some (.ref r1), some (.ref r2), some (.int v3), none, none, none] [] h Q :=
  s_aload_n dX6_play_0 rfl (s_getI dX6_play_1 flX6_27 (Or.inl rfl) (hi.sh rfl rfl) (s_iload_n dX6_play_4 rfl (s_icmp_ne 9 dX6_play_5 rfl (fun q3 => s_aload_n dX6_play_9 rfl (s_iload_n dX6_play_10 rfl (s_putI dX6_play_11 flX6_27 ff6_8 rfl (hi.sh rfl rfl) (s_aload_n dX6_play_14 rfl (s_getR (v := .ref 56) dX6_play_15 flX6_12 rfl (hi.sh rfl rfl) (hi.rf (o := 55) (k := 0) (d := 1) rfl rfl) (s_aload_n dX6_play_18 rfl (Vw.mask [true, true, false, false, false, false, false] (s_callV (As := [.ref r2]) dX6_play_19 rfl lvX6_31 ⟨Nat.le_of_ble_eq_true rfl, Nat.le_of_ble_eq_true rfl⟩ (hi.sh rfl rfl) ⟨_, _, by decide, rfl⟩ rfl (Nat.le_of_ble_eq_true rfl) ((K.1 q3)))))))))) (fun q3 => s_return dX6_play_8 rfl (K.2 q3)))))
theorem bX6_play_22 {G : GX} {h : mH} {Q : mO → mH → Prop} {r1 : Nat} (hi : Iv h) (k1 : kd r1 = (7, 7)) (K : WM G jJ7_fill_53178 [.ref 66, .int 0] h (Aft G jX6_play 27 [some (.ref 55), some (.ref r1), none, none, none, none, none] [] Q)) : Vw G jX6_play 22 [some (.ref 55), some (.ref r1), none, none, none, none, none] [] h Q :=
  s_aload_n dX6_play_22 rfl (s_getR (v := .ref 66) dX6_play_23 flX6_18 rfl (hi.sh rfl rfl) (hi.rf (o := 55) (k := 1) (d := 11) rfl rfl) (s_iconst 0 dX6_play_26 (by decide) (s_callS (As := [.ref 66, .int 0]) dX6_play_27 rfl lsX6_35 ⟨Nat.le_of_ble_eq_true rfl, Nat.le_of_ble_eq_true rfl⟩ rfl (Nat.le_of_ble_eq_true rfl) (K))))
theorem bX6_play_30 {G : GX} {h : mH} {Q : mO → mH → Prop} {r1 : Nat} (hi : Iv h) (k1 : kd r1 = (7, 7)) (K : Vw G jX6_play 61 [some (.ref 55), some (.ref r1), none, none, some (.int 0), some (.int 0), none] [] (pI (pI (pI (pI (pI h 55 2 0) 55 3 0) 55 4 0) 55 6 0) 55 5 0) Q) : Vw G jX6_play 30 [some (.ref 55), some (.ref r1), none, none, none, none, none] [] h Q :=
  s_aload_n dX6_play_30 rfl (s_iconst 0 dX6_play_31 (by decide) (s_putI dX6_play_32 flX6_41 ff6_2 rfl (hi.sh rfl rfl) (s_aload_n dX6_play_35 rfl (s_iconst 0 dX6_play_36 (by decide) (s_putI dX6_play_37 flX6_44 ff6_3 rfl (hi.sh rfl rfl) (s_aload_n dX6_play_40 rfl (s_iconst 0 dX6_play_41 (by decide) (s_putI dX6_play_42 flX6_47 ff6_4 rfl (hi.sh rfl rfl) (s_aload_n dX6_play_45 rfl (s_iconst 0 dX6_play_46 (by decide) (s_putZ dX6_play_47 flX6_50 ff6_6 rfl (hi.sh rfl rfl) (by decide) (s_aload_n dX6_play_50 rfl (s_iconst 0 dX6_play_51 (by decide) (s_putZ dX6_play_52 flX6_54 ff6_5 rfl (hi.sh rfl rfl) (by decide) (s_iconst 0 dX6_play_55 (by decide) (s_istore dX6_play_56 (Nat.le_of_ble_eq_true rfl) rfl (s_iconst 0 dX6_play_58 (by decide) (s_istore dX6_play_59 (Nat.le_of_ble_eq_true rfl) rfl (K)))))))))))))))))))
theorem bX6_play_61 {G : GX} {h : mH} {Q : mO → mH → Prop} {r1 : Nat} {v4 : Int32} {v5 : Int32} (hi : Iv h) (k1 : kd r1 = (7, 7)) (K : (1000000 ≤ v5 → Q (.inl none) h) ∧ (¬ 1000000 ≤ v5 → ((¬ (gI h 55 5) = 0 → Q (.inl none) h) ∧ ((gI h 55 5) = 0 → ((v4 < 0 → Q (.inl none) h) ∧ (¬ v4 < 0 → (((gI h r1 4) ≤ v4 → Q (.inl none) h) ∧ (¬ (gI h r1 4) ≤ v4 → (vp_in v4 100 ∧ ((7 ≤ (gI h (r1 + 1) (Int32.toNatClampNeg v4)) → Vw G jX6_play 131 [some (.ref 55), some (.ref r1), none, none, some (.int v4), some (.int v5), some (.int 0)] [] h Q) ∧ (¬ 7 ≤ (gI h (r1 + 1) (Int32.toNatClampNeg v4)) → (((gI h 55 3) < 1000 → Vw G jX6_play 131 [some (.ref 55), some (.ref r1), none, none, some (.int v4), some (.int v5), some (.int 1)] [] h Q) ∧ (¬ (gI h 55 3) < 1000 → Vw G jX6_play 176 [some (.ref 55), some (.ref r1), none, none, some (.int v4), some (.int v5), none] [] (pI h 55 5 1) Q))))))))))))) : Vw G jX6_play 61 [some (.ref 55), some (.ref r1), none, none, some (.int v4), some (.int v5), none] [] h Q :=
  s_iload dX6_play_61 rfl (s_ldc dX6_play_63 w_938 (s_icmp_ge 182 dX6_play_65 rfl (fun q2 => s_return dX6_play_182 rfl (K.1 q2)) (fun q2 => s_aload_n dX6_play_68 rfl (s_getI dX6_play_69 flX6_54 (Or.inr rfl) (hi.sh rfl rfl) (s_if_ne 182 dX6_play_72 rfl (fun q5 => s_return dX6_play_182 rfl ((K.2 q2).1 q5)) (fun q5 => s_iload dX6_play_75 rfl (s_if_lt 182 dX6_play_77 rfl (fun q7 => s_return dX6_play_182 rfl (((K.2 q2).2 q5).1 q7)) (fun q7 => s_iload dX6_play_80 rfl (s_aload_n dX6_play_82 rfl (s_getI dX6_play_83 flX6_58 (Or.inl rfl) (hi.sh k1 rfl) (s_icmp_ge 182 dX6_play_86 rfl (fun q11 => s_return dX6_play_182 rfl ((((K.2 q2).2 q5).2 q7).1 q11)) (fun q11 => s_aload_n dX6_play_89 rfl (s_getR (v := .ref (r1 + 1)) dX6_play_90 flX6_61 rfl (hi.sh k1 rfl) (hi.rf (o := r1) (k := 0) (d := 1) k1 rfl) (s_iload dX6_play_93 rfl (s_iaload dX6_play_95 (hi.sh (kd7_0 k1) rfl) ((((K.2 q2).2 q5).2 q7).2 q11).1 (s_bipush 7 dX6_play_96 (by decide) (s_icmp_ge 105 dX6_play_98 rfl (fun q17 => s_iconst 0 dX6_play_105 (by decide) (s_istore dX6_play_106 (Nat.le_of_ble_eq_true rfl) rfl (s_iload dX6_play_108 rfl (s_if_eq 131 dX6_play_110 rfl (fun _ => (((((K.2 q2).2 q5).2 q7).2 q11).2.1 q17)) (fun q => absurd (by decide) q))))) (fun q17 => s_iconst 1 dX6_play_101 (by decide) (s_goto 106 dX6_play_102 rfl (s_istore dX6_play_106 (Nat.le_of_ble_eq_true rfl) rfl (s_iload dX6_play_108 rfl (s_if_eq 131 dX6_play_110 rfl (fun q => absurd q (by decide)) (fun _ => s_aload_n dX6_play_113 rfl (s_getI dX6_play_114 flX6_44 (Or.inl rfl) (hi.sh rfl rfl) (s_sipush 1000 dX6_play_117 (by decide) (s_icmp_lt 131 dX6_play_120 rfl (fun q26 => ((((((K.2 q2).2 q5).2 q7).2 q11).2.2 q17).1 q26)) (fun q26 => s_aload_n dX6_play_123 rfl (s_iconst 1 dX6_play_124 (by decide) (s_putZ dX6_play_125 flX6_54 ff6_5 rfl (hi.sh rfl rfl) (by decide) (s_goto 176 dX6_play_128 rfl (Vw.mask [true, true, false, false, true, true, false] (((((((K.2 q2).2 q5).2 q7).2 q11).2.2 q17).2 q26)))))))))))))))))))))))))))))))))
theorem bX6_play_131 {G : GX} {h : mH} {Q : mO → mH → Prop} {r1 : Nat} {v4 : Int32} {v5 : Int32} {v6 : Int32} (hi : Iv h) (k1 : kd r1 = (7, 7)) (K : (v6 = 0 → WM G jX6_goesAside [.ref 55, .ref r1, .int v4] (pI h 55 3 ((gI h 55 3) + 0)) (Aft G jX6_play 154 [some (.ref 55), some (.ref r1), none, none, some (.int v4), some (.int v5), none] [] Q)) ∧ (¬ v6 = 0 → WM G jX6_goesAside [.ref 55, .ref r1, .int v4] (pI h 55 3 ((gI h 55 3) + 1)) (Aft G jX6_play 154 [some (.ref 55), some (.ref r1), none, none, some (.int v4), some (.int v5), none] [] Q))) : Vw G jX6_play 131 [some (.ref 55), some (.ref r1), none, none, some (.int v4), some (.int v5), some (.int v6)] [] h Q :=
  s_aload_n dX6_play_131 rfl (s_dupr dX6_play_132 (s_getI dX6_play_133 flX6_44 (Or.inl rfl) (hi.sh rfl rfl) (s_iload dX6_play_136 rfl (s_if_eq 145 dX6_play_138 rfl (fun q4 => s_iconst 0 dX6_play_145 (by decide) (s_iadd dX6_play_146 (s_putI dX6_play_147 flX6_44 ff6_3 rfl (hi.sh rfl rfl) (s_aload_n dX6_play_150 rfl (s_aload_n dX6_play_151 rfl (s_iload dX6_play_152 rfl (Vw.mask [true, true, false, false, true, true, false] (s_callV (As := [.ref r1, .int v4]) dX6_play_154 rfl lvX6_64 ⟨Nat.le_of_ble_eq_true rfl, Nat.le_of_ble_eq_true rfl⟩ (hi.sh rfl rfl) ⟨_, _, by decide, rfl⟩ rfl (Nat.le_of_ble_eq_true rfl) ((K.1 q4)))))))))) (fun q4 => s_iconst 1 dX6_play_141 (by decide) (s_goto 146 dX6_play_142 rfl (s_iadd dX6_play_146 (s_putI dX6_play_147 flX6_44 ff6_3 rfl (hi.sh rfl rfl) (s_aload_n dX6_play_150 rfl (s_aload_n dX6_play_151 rfl (s_iload dX6_play_152 rfl (Vw.mask [true, true, false, false, true, true, false] (s_callV (As := [.ref r1, .int v4]) dX6_play_154 rfl lvX6_64 ⟨Nat.le_of_ble_eq_true rfl, Nat.le_of_ble_eq_true rfl⟩ (hi.sh rfl rfl) ⟨_, _, by decide, rfl⟩ rfl (Nat.le_of_ble_eq_true rfl) ((K.2 q4)))))))))))))))
theorem bX6_play_157 {G : GX} {h : mH} {Q : mO → mH → Prop} {r1 : Nat} {v4 : Int32} {v5 : Int32} {vs0 : Int32} (hi : Iv h) (k1 : kd r1 = (7, 7)) (K : (vs0 = 0 → Vw G jX6_play 176 [some (.ref 55), some (.ref r1), none, none, some (.int (v4 + 1)), some (.int v5), none] [] h Q) ∧ (¬ vs0 = 0 → (vp_in v4 100 ∧ Vw G jX6_play 176 [some (.ref 55), some (.ref r1), none, none, some (.int (gI h (r1 + 4) (Int32.toNatClampNeg v4))), some (.int v5), none] [] h Q))) : Vw G jX6_play 157 [some (.ref 55), some (.ref r1), none, none, some (.int v4), some (.int v5), none] [.int vs0] h Q :=
  s_if_eq 170 dX6_play_157 rfl (fun q0 => s_iload dX6_play_170 rfl (s_iconst 1 dX6_play_172 (by decide) (s_iadd dX6_play_173 (s_istore dX6_play_174 (Nat.le_of_ble_eq_true rfl) rfl ((K.1 q0)))))) (fun q0 => s_aload_n dX6_play_160 rfl (s_getR (v := .ref (r1 + 4)) dX6_play_161 flX6_68 rfl (hi.sh k1 rfl) (hi.rf (o := r1) (k := 3) (d := 4) k1 rfl) (s_iload dX6_play_164 rfl (s_iaload dX6_play_166 (hi.sh (kd7_3 k1) rfl) (K.2 q0).1 (s_goto 174 dX6_play_167 rfl (s_istore dX6_play_174 (Nat.le_of_ble_eq_true rfl) rfl ((K.2 q0).2)))))))
theorem bX6_play_176 {G : GX} {h : mH} {Q : mO → mH → Prop} {r1 : Nat} {v4 : Int32} {v5 : Int32} (hi : Iv h) (k1 : kd r1 = (7, 7)) (K : Vw G jX6_play 61 [some (.ref 55), some (.ref r1), none, none, some (.int v4), some (.int (v5 + 1)), none] [] h Q) : Vw G jX6_play 176 [some (.ref 55), some (.ref r1), none, none, some (.int v4), some (.int v5), none] [] h Q :=
  s_iinc 1 dX6_play_176 rfl (by decide) (Nat.le_of_ble_eq_true rfl) rfl (s_goto 61 dX6_play_179 rfl (K))
theorem eX6_play {G : GX} {h : mH} {Q : mO → mH → Prop} {r1 : Nat} {r2 : Nat} {v3 : Int32} (hi : Iv h) (k1 : kd r1 = (7, 7)) (k2 : kd r2 = (2, 11)) (K : (¬ (gI h 55 8) = v3 → WM G jX2_copy [.ref 56, .ref r2] (pI h 55 8 v3) (Aft G jX6_play 19 [some (.ref 55), some (.ref r1), none, none, none, none, none] [] Q)) ∧ ((gI h 55 8) = v3 → Q (.inl none) h)) : WM G jX6_play [.ref 55, .ref r1, .ref r2, .int v3] h Q :=
  WM.body (ls := [some (.ref 55), some (.ref r1), some (.ref r2), some (.int v3), none, none, none]) rfl (by decide +kernel) rfl (Nat.le_of_ble_eq_true rfl) rfl ((bX6_play_0 hi k1 k2 K))
theorem dX4_pair_0 : decode cX4_pair 0 = .ok (.iconst 0, 1) := by decide +kernel
theorem dX4_pair_1 : decode cX4_pair 1 = .ok (.istore_n 2, 1) := by decide +kernel
theorem dX4_pair_2 : decode cX4_pair 2 = .ok (.iload_n 2, 1) := by decide +kernel
theorem dX4_pair_3 : decode cX4_pair 3 = .ok (.iconst 4, 1) := by decide +kernel
theorem dX4_pair_4 : decode cX4_pair 4 = .ok (.if_icmp .ge 40, 3) := by decide +kernel
theorem dX4_pair_7 : decode cX4_pair 7 = .ok (.iload_n 2, 1) := by decide +kernel
theorem dX4_pair_8 : decode cX4_pair 8 = .ok (.iconst 2, 1) := by decide +kernel
theorem dX4_pair_9 : decode cX4_pair 9 = .ok (.idiv, 1) := by decide +kernel
theorem dX4_pair_10 : decode cX4_pair 10 = .ok (.iload_n 1, 1) := by decide +kernel
theorem dX4_pair_11 : decode cX4_pair 11 = .ok (.iconst 2, 1) := by decide +kernel
theorem dX4_pair_12 : decode cX4_pair 12 = .ok (.ishr, 1) := by decide +kernel
theorem dX4_pair_13 : decode cX4_pair 13 = .ok (.ixor, 1) := by decide +kernel
theorem dX4_pair_14 : decode cX4_pair 14 = .ok (.istore_n 3, 1) := by decide +kernel
theorem dX4_pair_15 : decode cX4_pair 15 = .ok (.iload_n 1, 1) := by decide +kernel
theorem dX4_pair_16 : decode cX4_pair 16 = .ok (.iload_n 3, 1) := by decide +kernel
theorem dX4_pair_17 : decode cX4_pair 17 = .ok (.ishr, 1) := by decide +kernel
theorem dX4_pair_18 : decode cX4_pair 18 = .ok (.iconst 1, 1) := by decide +kernel
theorem dX4_pair_19 : decode cX4_pair 19 = .ok (.iand, 1) := by decide +kernel
theorem dX4_pair_20 : decode cX4_pair 20 = .ok (.istore 4, 2) := by decide +kernel
theorem dX4_pair_22 : decode cX4_pair 22 = .ok (.aload_n 0, 1) := by decide +kernel
theorem dX4_pair_23 : decode cX4_pair 23 = .ok (.getfield 9, 3) := by decide +kernel
theorem dX4_pair_26 : decode cX4_pair 26 = .ok (.iload_n 2, 1) := by decide +kernel
theorem dX4_pair_27 : decode cX4_pair 27 = .ok (.iconst 2, 1) := by decide +kernel
theorem dX4_pair_28 : decode cX4_pair 28 = .ok (.iload_n 3, 1) := by decide +kernel
theorem dX4_pair_29 : decode cX4_pair 29 = .ok (.imul, 1) := by decide +kernel
theorem dX4_pair_30 : decode cX4_pair 30 = .ok (.iload_n 2, 1) := by decide +kernel
theorem dX4_pair_31 : decode cX4_pair 31 = .ok (.iconst 2, 1) := by decide +kernel
theorem dX4_pair_32 : decode cX4_pair 32 = .ok (.irem, 1) := by decide +kernel
theorem dX4_pair_33 : decode cX4_pair 33 = .ok (.iload 4, 2) := by decide +kernel
theorem dX4_pair_35 : decode cX4_pair 35 = .ok (.ixor, 1) := by decide +kernel
theorem dX4_pair_36 : decode cX4_pair 36 = .ok (.iadd, 1) := by decide +kernel
theorem dX4_pair_37 : decode cX4_pair 37 = .ok (.iastore, 1) := by decide +kernel
theorem dX4_pair_38 : decode cX4_pair 38 = .ok (.iinc 2 1, 3) := by decide +kernel
theorem dX4_pair_41 : decode cX4_pair 41 = .ok (.goto (-39), 3) := by decide +kernel
theorem dX4_pair_44 : decode cX4_pair 44 = .ok (.return_, 1) := by decide +kernel
theorem bX4_pair_0 {G : GX} {h : mH} {Q : mO → mH → Prop} {v1 : Int32} (hi : Iv h) (K : Vw G jX4_pair 2 [some (.ref 68), some (.int v1), some (.int 0), none, none] [] h Q) : Vw G jX4_pair 0 [some (.ref 68), some (.int v1), none, none, none] [] h Q :=
  s_iconst 0 dX4_pair_0 (by decide) (s_istore_n dX4_pair_1 (Nat.le_of_ble_eq_true rfl) rfl (K))
theorem bX4_pair_2 {G : GX} {h : mH} {Q : mO → mH → Prop} {v1 : Int32} {v2 : Int32} (hi : Iv h) (K : (4 ≤ v2 → Q (.inl none) h) ∧ (¬ 4 ≤ v2 → (vp_in v2 4 ∧ Vw G jX4_pair 2 [some (.ref 68), some (.int v1), some (.int (v2 + 1)), none, none] [] (pI h 69 (Int32.toNatClampNeg v2) ((2 * ((v2 / (2 : Int32)) ^^^ (v1 >>> ((2 : Int32) &&& 31)))) + ((v2 - v2 / (2 : Int32) * (2 : Int32)) ^^^ ((v1 >>> (((v2 / (2 : Int32)) ^^^ (v1 >>> ((2 : Int32) &&& 31))) &&& 31)) &&& (1 : Int32))))) Q))) : Vw G jX4_pair 2 [some (.ref 68), some (.int v1), some (.int v2), none, none] [] h Q :=
  s_iload_n dX4_pair_2 rfl (s_iconst 4 dX4_pair_3 (by decide) (s_icmp_ge 44 dX4_pair_4 rfl (fun q2 => s_return dX4_pair_44 rfl (K.1 q2)) (fun q2 => s_iload_n dX4_pair_7 rfl (s_iconst 2 dX4_pair_8 (by decide) (s_idiv dX4_pair_9 (by decide) (s_iload_n dX4_pair_10 rfl (s_iconst 2 dX4_pair_11 (by decide) (s_ishr dX4_pair_12 (s_ixor dX4_pair_13 (s_istore_n dX4_pair_14 (Nat.le_of_ble_eq_true rfl) rfl (s_iload_n dX4_pair_15 rfl (s_iload_n dX4_pair_16 rfl (s_ishr dX4_pair_17 (s_iconst 1 dX4_pair_18 (by decide) (s_iand dX4_pair_19 (s_istore dX4_pair_20 (Nat.le_of_ble_eq_true rfl) rfl (s_aload_n dX4_pair_22 rfl (s_getR (v := .ref 69) dX4_pair_23 flX4_9 rfl (hi.sh rfl rfl) (hi.rf (o := 68) (k := 0) (d := 1) rfl rfl) (s_iload_n dX4_pair_26 rfl (s_iconst 2 dX4_pair_27 (by decide) (s_iload_n dX4_pair_28 rfl (s_imul dX4_pair_29 (s_iload_n dX4_pair_30 rfl (s_iconst 2 dX4_pair_31 (by decide) (s_irem dX4_pair_32 (by decide) (s_iload dX4_pair_33 rfl (s_ixor dX4_pair_35 (s_iadd dX4_pair_36 (s_iastore dX4_pair_37 (hi.sh rfl rfl) (K.2 q2).1 (s_iinc 1 dX4_pair_38 rfl (by decide) (Nat.le_of_ble_eq_true rfl) rfl (s_goto 2 dX4_pair_41 rfl (Vw.mask [true, true, true, false, false] ((K.2 q2).2)))))))))))))))))))))))))))))))))
theorem eX4_pair {G : GX} {h : mH} {Q : mO → mH → Prop} {v1 : Int32} (hi : Iv h) (K : Vw G jX4_pair 2 [some (.ref 68), some (.int v1), some (.int 0), none, none] [] h Q) : WM G jX4_pair [.ref 68, .int v1] h Q :=
  WM.body (ls := [some (.ref 68), some (.int v1), none, none, none]) rfl (by decide +kernel) rfl (Nat.le_of_ble_eq_true rfl) rfl ((bX4_pair_0 hi  K))
theorem dX4_agree_0 : decode cX4_agree 0 = .ok (.iconst (-1), 1) := by decide +kernel
theorem dX4_agree_1 : decode cX4_agree 1 = .ok (.istore_n 3, 1) := by decide +kernel
theorem dX4_agree_2 : decode cX4_agree 2 = .ok (.iconst 0, 1) := by decide +kernel
theorem dX4_agree_3 : decode cX4_agree 3 = .ok (.istore 4, 2) := by decide +kernel
theorem dX4_agree_5 : decode cX4_agree 5 = .ok (.iload 4, 2) := by decide +kernel
theorem dX4_agree_7 : decode cX4_agree 7 = .ok (.iconst 4, 1) := by decide +kernel
theorem dX4_agree_8 : decode cX4_agree 8 = .ok (.if_icmp .ge 161, 3) := by decide +kernel
theorem dX4_agree_11 : decode cX4_agree 11 = .ok (.aload_n 0, 1) := by decide +kernel
theorem dX4_agree_12 : decode cX4_agree 12 = .ok (.getfield 9, 3) := by decide +kernel
theorem dX4_agree_15 : decode cX4_agree 15 = .ok (.iload 4, 2) := by decide +kernel
theorem dX4_agree_17 : decode cX4_agree 17 = .ok (.iaload, 1) := by decide +kernel
theorem dX4_agree_18 : decode cX4_agree 18 = .ok (.istore 5, 2) := by decide +kernel
theorem dX4_agree_20 : decode cX4_agree 20 = .ok (.aload_n 1, 1) := by decide +kernel
theorem dX4_agree_21 : decode cX4_agree 21 = .ok (.getfield 29, 3) := by decide +kernel
theorem dX4_agree_24 : decode cX4_agree 24 = .ok (.bipush 8, 2) := by decide +kernel
theorem dX4_agree_26 : decode cX4_agree 26 = .ok (.iload 4, 2) := by decide +kernel
theorem dX4_agree_28 : decode cX4_agree 28 = .ok (.iadd, 1) := by decide +kernel
theorem dX4_agree_29 : decode cX4_agree 29 = .ok (.iaload, 1) := by decide +kernel
theorem dX4_agree_30 : decode cX4_agree 30 = .ok (.istore 6, 2) := by decide +kernel
theorem dX4_agree_32 : decode cX4_agree 32 = .ok (.aload_n 2, 1) := by decide +kernel
theorem dX4_agree_33 : decode cX4_agree 33 = .ok (.getfield 29, 3) := by decide +kernel
theorem dX4_agree_36 : decode cX4_agree 36 = .ok (.bipush 8, 2) := by decide +kernel
theorem dX4_agree_38 : decode cX4_agree 38 = .ok (.iload 5, 2) := by decide +kernel
theorem dX4_agree_40 : decode cX4_agree 40 = .ok (.iadd, 1) := by decide +kernel
theorem dX4_agree_41 : decode cX4_agree 41 = .ok (.iaload, 1) := by decide +kernel
theorem dX4_agree_42 : decode cX4_agree 42 = .ok (.istore 7, 2) := by decide +kernel
theorem dX4_agree_44 : decode cX4_agree 44 = .ok (.iload 6, 2) := by decide +kernel
theorem dX4_agree_46 : decode cX4_agree 46 = .ok (.ifCond .ne 11, 3) := by decide +kernel
theorem dX4_agree_49 : decode cX4_agree 49 = .ok (.iload 7, 2) := by decide +kernel
theorem dX4_agree_51 : decode cX4_agree 51 = .ok (.ifCond .ne 6, 3) := by decide +kernel
theorem dX4_agree_54 : decode cX4_agree 54 = .ok (.goto 109, 3) := by decide +kernel
theorem dX4_agree_57 : decode cX4_agree 57 = .ok (.iload 6, 2) := by decide +kernel
theorem dX4_agree_59 : decode cX4_agree 59 = .ok (.ifCond .le 12, 3) := by decide +kernel
theorem dX4_agree_62 : decode cX4_agree 62 = .ok (.iload 7, 2) := by decide +kernel
theorem dX4_agree_64 : decode cX4_agree 64 = .ok (.ifCond .le 7, 3) := by decide +kernel
theorem dX4_agree_67 : decode cX4_agree 67 = .ok (.iconst 1, 1) := by decide +kernel
theorem dX4_agree_68 : decode cX4_agree 68 = .ok (.goto 4, 3) := by decide +kernel
theorem dX4_agree_71 : decode cX4_agree 71 = .ok (.iconst 0, 1) := by decide +kernel
theorem dX4_agree_72 : decode cX4_agree 72 = .ok (.istore 8, 2) := by decide +kernel
theorem dX4_agree_74 : decode cX4_agree 74 = .ok (.iload 8, 2) := by decide +kernel
theorem dX4_agree_76 : decode cX4_agree 76 = .ok (.ifCond .eq 35, 3) := by decide +kernel
theorem dX4_agree_79 : decode cX4_agree 79 = .ok (.aload_n 1, 1) := by decide +kernel
theorem dX4_agree_80 : decode cX4_agree 80 = .ok (.getfield 34, 3) := by decide +kernel
theorem dX4_agree_83 : decode cX4_agree 83 = .ok (.iload 4, 2) := by decide +kernel
theorem dX4_agree_85 : decode cX4_agree 85 = .ok (.iaload, 1) := by decide +kernel
theorem dX4_agree_86 : decode cX4_agree 86 = .ok (.aload_n 2, 1) := by decide +kernel
theorem dX4_agree_87 : decode cX4_agree 87 = .ok (.getfield 34, 3) := by decide +kernel
theorem dX4_agree_90 : decode cX4_agree 90 = .ok (.iload 5, 2) := by decide +kernel
theorem dX4_agree_92 : decode cX4_agree 92 = .ok (.iaload, 1) := by decide +kernel
theorem dX4_agree_93 : decode cX4_agree 93 = .ok (.if_icmp .ne 18, 3) := by decide +kernel
theorem dX4_agree_96 : decode cX4_agree 96 = .ok (.aload_n 1, 1) := by decide +kernel
theorem dX4_agree_97 : decode cX4_agree 97 = .ok (.iload 4, 2) := by decide +kernel
theorem dX4_agree_99 : decode cX4_agree 99 = .ok (.invokevirtual 37, 3) := by decide +kernel
theorem dX4_agree_102 : decode cX4_agree 102 = .ok (.aload_n 2, 1) := by decide +kernel
theorem dX4_agree_103 : decode cX4_agree 103 = .ok (.iload 5, 2) := by decide +kernel
theorem dX4_agree_105 : decode cX4_agree 105 = .ok (.invokevirtual 37, 3) := by decide +kernel
theorem dX4_agree_108 : decode cX4_agree 108 = .ok (.if_icmp .eq 5, 3) := by decide +kernel
theorem dX4_agree_111 : decode cX4_agree 111 = .ok (.iconst 0, 1) := by decide +kernel
theorem dX4_agree_112 : decode cX4_agree 112 = .ok (.ireturn, 1) := by decide +kernel
theorem dX4_agree_113 : decode cX4_agree 113 = .ok (.iload_n 3, 1) := by decide +kernel
theorem dX4_agree_114 : decode cX4_agree 114 = .ok (.iconst (-1), 1) := by decide +kernel
theorem dX4_agree_115 : decode cX4_agree 115 = .ok (.if_icmp .ne 6, 3) := by decide +kernel
theorem dX4_agree_118 : decode cX4_agree 118 = .ok (.iload 4, 2) := by decide +kernel
theorem dX4_agree_120 : decode cX4_agree 120 = .ok (.istore_n 3, 1) := by decide +kernel
theorem dX4_agree_121 : decode cX4_agree 121 = .ok (.aload_n 1, 1) := by decide +kernel
theorem dX4_agree_122 : decode cX4_agree 122 = .ok (.getfield 29, 3) := by decide +kernel
theorem dX4_agree_125 : decode cX4_agree 125 = .ok (.bipush 8, 2) := by decide +kernel
theorem dX4_agree_127 : decode cX4_agree 127 = .ok (.iload_n 3, 1) := by decide +kernel
theorem dX4_agree_128 : decode cX4_agree 128 = .ok (.iadd, 1) := by decide +kernel
theorem dX4_agree_129 : decode cX4_agree 129 = .ok (.iaload, 1) := by decide +kernel
theorem dX4_agree_130 : decode cX4_agree 130 = .ok (.istore 9, 2) := by decide +kernel
theorem dX4_agree_132 : decode cX4_agree 132 = .ok (.aload_n 2, 1) := by decide +kernel
theorem dX4_agree_133 : decode cX4_agree 133 = .ok (.getfield 29, 3) := by decide +kernel
theorem dX4_agree_136 : decode cX4_agree 136 = .ok (.bipush 8, 2) := by decide +kernel
theorem dX4_agree_138 : decode cX4_agree 138 = .ok (.aload_n 0, 1) := by decide +kernel
theorem dX4_agree_139 : decode cX4_agree 139 = .ok (.getfield 9, 3) := by decide +kernel
theorem dX4_agree_142 : decode cX4_agree 142 = .ok (.iload_n 3, 1) := by decide +kernel
theorem dX4_agree_143 : decode cX4_agree 143 = .ok (.iaload, 1) := by decide +kernel
theorem dX4_agree_144 : decode cX4_agree 144 = .ok (.iadd, 1) := by decide +kernel
theorem dX4_agree_145 : decode cX4_agree 145 = .ok (.iaload, 1) := by decide +kernel
theorem dX4_agree_146 : decode cX4_agree 146 = .ok (.istore 10, 2) := by decide +kernel
theorem dX4_agree_148 : decode cX4_agree 148 = .ok (.iload 6, 2) := by decide +kernel
theorem dX4_agree_150 : decode cX4_agree 150 = .ok (.iload 10, 2) := by decide +kernel
theorem dX4_agree_152 : decode cX4_agree 152 = .ok (.imul, 1) := by decide +kernel
theorem dX4_agree_153 : decode cX4_agree 153 = .ok (.iload 7, 2) := by decide +kernel
theorem dX4_agree_155 : decode cX4_agree 155 = .ok (.iload 9, 2) := by decide +kernel
theorem dX4_agree_157 : decode cX4_agree 157 = .ok (.imul, 1) := by decide +kernel
theorem dX4_agree_158 : decode cX4_agree 158 = .ok (.if_icmp .eq 5, 3) := by decide +kernel
theorem dX4_agree_161 : decode cX4_agree 161 = .ok (.iconst 0, 1) := by decide +kernel
theorem dX4_agree_162 : decode cX4_agree 162 = .ok (.ireturn, 1) := by decide +kernel
theorem dX4_agree_163 : decode cX4_agree 163 = .ok (.iinc 4 1, 3) := by decide +kernel
theorem dX4_agree_166 : decode cX4_agree 166 = .ok (.goto (-161), 3) := by decide +kernel
theorem dX4_agree_169 : decode cX4_agree 169 = .ok (.iconst 1, 1) := by decide +kernel
theorem dX4_agree_170 : decode cX4_agree 170 = .ok (.ireturn, 1) := by decide +kernel
theorem bX4_agree_0 {G : GX} {h : mH} {Q : mO → mH → Prop} {r1 : Nat} {r2 : Nat} (hi : Iv h) (k1 : kd r1 = (2, 11)) (k2 : kd r2 = (2, 11)) (K : Vw G jX4_agree 5 [some (.ref 68), some (.ref r1), some (.ref r2), some (.int (-1)), some (.int 0), none, none, none, none, none, none] [] h Q) : Vw G jX4_agree 0 [some (.ref 68), some (.ref r1), some (.ref r2), none, none, none, none, none, none, none, none] [] h Q :=
  s_iconst (-1) dX4_agree_0 (by decide) (s_istore_n dX4_agree_1 (Nat.le_of_ble_eq_true rfl) rfl (s_iconst 0 dX4_agree_2 (by decide) (s_istore dX4_agree_3 (Nat.le_of_ble_eq_true rfl) rfl (K))))
theorem bX4_agree_5 {G : GX} {h : mH} {Q : mO → mH → Prop} {r1 : Nat} {r2 : Nat} {v3 : Int32} {v4 : Int32} (hi : Iv h) (k1 : kd r1 = (2, 11)) (k2 : kd r2 = (2, 11)) (K : (4 ≤ v4 → Q (.inl (some (.int 1))) h) ∧ (¬ 4 ≤ v4 → (vp_in v4 4 ∧ (vp_in (8 + v4) 12 ∧ (vp_in (8 + (gI h 69 (Int32.toNatClampNeg v4))) 12 ∧ ((¬ (gI h (r1 + 4) (Int32.toNatClampNeg (8 + v4))) = 0 → Vw G jX4_agree 57 [some (.ref 68), some (.ref r1), some (.ref r2), some (.int v3), some (.int v4), some (.int (gI h 69 (Int32.toNatClampNeg v4))), some (.int (gI h (r1 + 4) (Int32.toNatClampNeg (8 + v4)))), some (.int (gI h (r2 + 4) (Int32.toNatClampNeg (8 + (gI h 69 (Int32.toNatClampNeg v4)))))), none, none, none] [] h Q) ∧ ((gI h (r1 + 4) (Int32.toNatClampNeg (8 + v4))) = 0 → ((¬ (gI h (r2 + 4) (Int32.toNatClampNeg (8 + (gI h 69 (Int32.toNatClampNeg v4))))) = 0 → Vw G jX4_agree 57 [some (.ref 68), some (.ref r1), some (.ref r2), some (.int v3), some (.int v4), some (.int (gI h 69 (Int32.toNatClampNeg v4))), some (.int (gI h (r1 + 4) (Int32.toNatClampNeg (8 + v4)))), some (.int (gI h (r2 + 4) (Int32.toNatClampNeg (8 + (gI h 69 (Int32.toNatClampNeg v4)))))), none, none, none] [] h Q) ∧ ((gI h (r2 + 4) (Int32.toNatClampNeg (8 + (gI h 69 (Int32.toNatClampNeg v4))))) = 0 → Vw G jX4_agree 163 [some (.ref 68), some (.ref r1), some (.ref r2), some (.int v3), some (.int v4), none, none, none, none, none, none] [] h Q))))))))) : Vw G jX4_agree 5 [some (.ref 68), some (.ref r1), some (.ref r2), some (.int v3), some (.int v4), none, none, none, none, none, none] [] h Q :=
  s_iload dX4_agree_5 rfl (s_iconst 4 dX4_agree_7 (by decide) (s_icmp_ge 169 dX4_agree_8 rfl (fun q2 => s_iconst 1 dX4_agree_169 (by decide) (s_zreturn dX4_agree_170 rfl (by decide) (K.1 q2))) (fun q2 => s_aload_n dX4_agree_11 rfl (s_getR (v := .ref 69) dX4_agree_12 flX4_9 rfl (hi.sh rfl rfl) (hi.rf (o := 68) (k := 0) (d := 1) rfl rfl) (s_iload dX4_agree_15 rfl (s_iaload dX4_agree_17 (hi.sh rfl rfl) (K.2 q2).1 (s_istore dX4_agree_18 (Nat.le_of_ble_eq_true rfl) rfl (s_aload_n dX4_agree_20 rfl (s_getR (v := .ref (r1 + 4)) dX4_agree_21 flX4_29 rfl (hi.sh k1 rfl) (hi.rf (o := r1) (k := 3) (d := 4) k1 rfl) (s_bipush 8 dX4_agree_24 (by decide) (s_iload dX4_agree_26 rfl (s_iadd dX4_agree_28 (s_iaload dX4_agree_29 (hi.sh (kd2_3 k1) rfl) (K.2 q2).2.1 (s_istore dX4_agree_30 (Nat.le_of_ble_eq_true rfl) rfl (s_aload_n dX4_agree_32 rfl (s_getR (v := .ref (r2 + 4)) dX4_agree_33 flX4_29 rfl (hi.sh k2 rfl) (hi.rf (o := r2) (k := 3) (d := 4) k2 rfl) (s_bipush 8 dX4_agree_36 (by decide) (s_iload dX4_agree_38 rfl (s_iadd dX4_agree_40 (s_iaload dX4_agree_41 (hi.sh (kd2_3 k2) rfl) (K.2 q2).2.2.1 (s_istore dX4_agree_42 (Nat.le_of_ble_eq_true rfl) rfl (s_iload dX4_agree_44 rfl (s_if_ne 57 dX4_agree_46 rfl (fun q23 => ((K.2 q2).2.2.2.1 q23)) (fun q23 => s_iload dX4_agree_49 rfl (s_if_ne 57 dX4_agree_51 rfl (fun q25 => (((K.2 q2).2.2.2.2 q23).1 q25)) (fun q25 => s_goto 163 dX4_agree_54 rfl (Vw.mask [true, true, true, true, true, false, false, false, false, false, false] ((((K.2 q2).2.2.2.2 q23).2 q25)))))))))))))))))))))))))))))
theorem bX4_agree_57 {G : GX} {h : mH} {Q : mO → mH → Prop} {r1 : Nat} {r2 : Nat} {v3 : Int32} {v4 : Int32} {v5 : Int32} {v6 : Int32} {v7 : Int32} (hi : Iv h) (k1 : kd r1 = (2, 11)) (k2 : kd r2 = (2, 11)) (K : (v6 ≤ 0 → Vw G jX4_agree 71 [some (.ref 68), some (.ref r1), some (.ref r2), some (.int v3), some (.int v4), some (.int v5), some (.int v6), some (.int v7), none, none, none] [] h Q) ∧ (¬ v6 ≤ 0 → ((v7 ≤ 0 → Vw G jX4_agree 71 [some (.ref 68), some (.ref r1), some (.ref r2), some (.int v3), some (.int v4), some (.int v5), some (.int v6), some (.int v7), none, none, none] [] h Q) ∧ (¬ v7 ≤ 0 → (vp_in v4 4 ∧ (vp_in v5 4 ∧ ((¬ (gI h (r1 + 1) (Int32.toNatClampNeg v4)) = (gI h (r2 + 1) (Int32.toNatClampNeg v5)) → Q (.inl (some (.int 0))) h) ∧ ((gI h (r1 + 1) (Int32.toNatClampNeg v4)) = (gI h (r2 + 1) (Int32.toNatClampNeg v5)) → WM G jX2_period [.ref r1, .int v4] h (Aft G jX4_agree 99 [some (.ref 68), some (.ref r1), some (.ref r2), some (.int v3), some (.int v4), some (.int v5), some (.int v6), some (.int v7), none, none, none] [] Q))))))))) : Vw G jX4_agree 57 [some (.ref 68), some (.ref r1), some (.ref r2), some (.int v3), some (.int v4), some (.int v5), some (.int v6), some (.int v7), none, none, none] [] h Q :=
  s_iload dX4_agree_57 rfl (s_if_le 71 dX4_agree_59 rfl (fun q1 => (K.1 q1)) (fun q1 => s_iload dX4_agree_62 rfl (s_if_le 71 dX4_agree_64 rfl (fun q3 => ((K.2 q1).1 q3)) (fun q3 => s_iconst 1 dX4_agree_67 (by decide) (s_goto 72 dX4_agree_68 rfl (s_istore dX4_agree_72 (Nat.le_of_ble_eq_true rfl) rfl (s_iload dX4_agree_74 rfl (s_if_eq 111 dX4_agree_76 rfl (fun q => absurd q (by decide)) (fun _ => s_aload_n dX4_agree_79 rfl (s_getR (v := .ref (r1 + 1)) dX4_agree_80 flX4_34 rfl (hi.sh k1 rfl) (hi.rf (o := r1) (k := 0) (d := 1) k1 rfl) (s_iload dX4_agree_83 rfl (s_iaload dX4_agree_85 (hi.sh (kd2_0 k1) rfl) ((K.2 q1).2 q3).1 (s_aload_n dX4_agree_86 rfl (s_getR (v := .ref (r2 + 1)) dX4_agree_87 flX4_34 rfl (hi.sh k2 rfl) (hi.rf (o := r2) (k := 0) (d := 1) k2 rfl) (s_iload dX4_agree_90 rfl (s_iaload dX4_agree_92 (hi.sh (kd2_0 k2) rfl) ((K.2 q1).2 q3).2.1 (s_icmp_ne 111 dX4_agree_93 rfl (fun q17 => s_iconst 0 dX4_agree_111 (by decide) (s_zreturn dX4_agree_112 rfl (by decide) (((K.2 q1).2 q3).2.2.1 q17))) (fun q17 => s_aload_n dX4_agree_96 rfl (s_iload dX4_agree_97 rfl (Vw.mask [true, true, true, true, true, true, true, true, false, false, false] (s_callV (As := [.int v4]) dX4_agree_99 rfl lvX4_37 ⟨Nat.le_of_ble_eq_true rfl, Nat.le_of_ble_eq_true rfl⟩ (hi.sh k1 rfl) ⟨_, _, by decide, rfl⟩ rfl (Nat.le_of_ble_eq_true rfl) ((((K.2 q1).2 q3).2.2.2 q17)))))))))))))))))))))))
theorem bX4_agree_71 {G : GX} {h : mH} {Q : mO → mH → Prop} {r1 : Nat} {r2 : Nat} {v3 : Int32} {v4 : Int32} {v5 : Int32} {v6 : Int32} {v7 : Int32} (hi : Iv h) (k1 : kd r1 = (2, 11)) (k2 : kd r2 = (2, 11)) (K : Q (.inl (some (.int 0))) h) : Vw G jX4_agree 71 [some (.ref 68), some (.ref r1), some (.ref r2), some (.int v3), some (.int v4), some (.int v5), some (.int v6), some (.int v7), none, none, none] [] h Q :=
  s_iconst 0 dX4_agree_71 (by decide) (s_istore dX4_agree_72 (Nat.le_of_ble_eq_true rfl) rfl (s_iload dX4_agree_74 rfl (s_if_eq 111 dX4_agree_76 rfl (fun _ => s_iconst 0 dX4_agree_111 (by decide) (s_zreturn dX4_agree_112 rfl (by decide) K)) (fun q => absurd (by decide) q))))
theorem bX4_agree_102 {G : GX} {h : mH} {Q : mO → mH → Prop} {r1 : Nat} {r2 : Nat} {v3 : Int32} {v4 : Int32} {v5 : Int32} {v6 : Int32} {v7 : Int32} {vs0 : Int32} (hi : Iv h) (k1 : kd r1 = (2, 11)) (k2 : kd r2 = (2, 11)) (K : WM G jX2_period [.ref r2, .int v5] h (Aft G jX4_agree 105 [some (.ref 68), some (.ref r1), some (.ref r2), some (.int v3), some (.int v4), none, some (.int v6), some (.int v7), none, none, none] [.int vs0] Q)) : Vw G jX4_agree 102 [some (.ref 68), some (.ref r1), some (.ref r2), some (.int v3), some (.int v4), some (.int v5), some (.int v6), some (.int v7), none, none, none] [.int vs0] h Q :=
  s_aload_n dX4_agree_102 rfl (s_iload dX4_agree_103 rfl (Vw.mask [true, true, true, true, true, false, true, true, false, false, false] (s_callV (As := [.int v5]) dX4_agree_105 rfl lvX4_37 ⟨Nat.le_of_ble_eq_true rfl, Nat.le_of_ble_eq_true rfl⟩ (hi.sh k2 rfl) ⟨_, _, by decide, rfl⟩ rfl (Nat.le_of_ble_eq_true rfl) (K))))
theorem bX4_agree_108 {G : GX} {h : mH} {Q : mO → mH → Prop} {r1 : Nat} {r2 : Nat} {v3 : Int32} {v4 : Int32} {v6 : Int32} {v7 : Int32} {vs0 : Int32} {vs1 : Int32} (hi : Iv h) (k1 : kd r1 = (2, 11)) (k2 : kd r2 = (2, 11)) (K : (vs1 = vs0 → ((¬ v3 = (-1) → Vw G jX4_agree 121 [some (.ref 68), some (.ref r1), some (.ref r2), some (.int v3), some (.int v4), none, some (.int v6), some (.int v7), none, none, none] [] h Q) ∧ (v3 = (-1) → Vw G jX4_agree 121 [some (.ref 68), some (.ref r1), some (.ref r2), some (.int v4), some (.int v4), none, some (.int v6), some (.int v7), none, none, none] [] h Q))) ∧ (¬ vs1 = vs0 → Q (.inl (some (.int 0))) h)) : Vw G jX4_agree 108 [some (.ref 68), some (.ref r1), some (.ref r2), some (.int v3), some (.int v4), none, some (.int v6), some (.int v7), none, none, none] [.int vs0, .int vs1] h Q :=
  s_icmp_eq 113 dX4_agree_108 rfl (fun q0 => s_iload_n dX4_agree_113 rfl (s_iconst (-1) dX4_agree_114 (by decide) (s_icmp_ne 121 dX4_agree_115 rfl (fun q3 => ((K.1 q0).1 q3)) (fun q3 => s_iload dX4_agree_118 rfl (s_istore_n dX4_agree_120 (Nat.le_of_ble_eq_true rfl) rfl (((K.1 q0).2 q3))))))) (fun q0 => s_iconst 0 dX4_agree_111 (by decide) (s_zreturn dX4_agree_112 rfl (by decide) (K.2 q0)))
theorem bX4_agree_121 {G : GX} {h : mH} {Q : mO → mH → Prop} {r1 : Nat} {r2 : Nat} {v3 : Int32} {v4 : Int32} {v6 : Int32} {v7 : Int32} (hi : Iv h) (k1 : kd r1 = (2, 11)) (k2 : kd r2 = (2, 11)) (K : vp_in (8 + v3) 12 ∧ (vp_in v3 4 ∧ (vp_in (8 + (gI h 69 (Int32.toNatClampNeg v3))) 12 ∧ (((v6 * (gI h (r2 + 4) (Int32.toNatClampNeg (8 + (gI h 69 (Int32.toNatClampNeg v3)))))) = (v7 * (gI h (r1 + 4) (Int32.toNatClampNeg (8 + v3)))) → Vw G jX4_agree 163 [some (.ref 68), some (.ref r1), some (.ref r2), some (.int v3), some (.int v4), none, none, none, none, none, none] [] h Q) ∧ (¬ (v6 * (gI h (r2 + 4) (Int32.toNatClampNeg (8 + (gI h 69 (Int32.toNatClampNeg v3)))))) = (v7 * (gI h (r1 + 4) (Int32.toNatClampNeg (8 + v3)))) → Q (.inl (some (.int 0))) h))))) : Vw G jX4_agree 121 [some (.ref 68), some (.ref r1), some (.ref r2), some (.int v3), some (.int v4), none, some (.int v6), some (.int v7), none, none, none] [] h Q :=
  s_aload_n dX4_agree_121 rfl (s_getR (v := .ref (r1 + 4)) dX4_agree_122 flX4_29 rfl (hi.sh k1 rfl) (hi.rf (o := r1) (k := 3) (d := 4) k1 rfl) (s_bipush 8 dX4_agree_125 (by decide) (s_iload_n dX4_agree_127 rfl (s_iadd dX4_agree_128 (s_iaload dX4_agree_129 (hi.sh (kd2_3 k1) rfl) K.1 (s_istore dX4_agree_130 (Nat.le_of_ble_eq_true rfl) rfl (s_aload_n dX4_agree_132 rfl (s_getR (v := .ref (r2 + 4)) dX4_agree_133 flX4_29 rfl (hi.sh k2 rfl) (hi.rf (o := r2) (k := 3) (d := 4) k2 rfl) (s_bipush 8 dX4_agree_136 (by decide) (s_aload_n dX4_agree_138 rfl (s_getR (v := .ref 69) dX4_agree_139 flX4_9 rfl (hi.sh rfl rfl) (hi.rf (o := 68) (k := 0) (d := 1) rfl rfl) (s_iload_n dX4_agree_142 rfl (s_iaload dX4_agree_143 (hi.sh rfl rfl) K.2.1 (s_iadd dX4_agree_144 (s_iaload dX4_agree_145 (hi.sh (kd2_3 k2) rfl) K.2.2.1 (s_istore dX4_agree_146 (Nat.le_of_ble_eq_true rfl) rfl (s_iload dX4_agree_148 rfl (s_iload dX4_agree_150 rfl (s_imul dX4_agree_152 (s_iload dX4_agree_153 rfl (s_iload dX4_agree_155 rfl (s_imul dX4_agree_157 (s_icmp_eq 163 dX4_agree_158 rfl (fun q23 => Vw.mask [true, true, true, true, true, false, false, false, false, false, false] ((K.2.2.2.1 q23))) (fun q23 => s_iconst 0 dX4_agree_161 (by decide) (s_zreturn dX4_agree_162 rfl (by decide) (K.2.2.2.2 q23))))))))))))))))))))))))))
theorem bX4_agree_163 {G : GX} {h : mH} {Q : mO → mH → Prop} {r1 : Nat} {r2 : Nat} {v3 : Int32} {v4 : Int32} (hi : Iv h) (k1 : kd r1 = (2, 11)) (k2 : kd r2 = (2, 11)) (K : Vw G jX4_agree 5 [some (.ref 68), some (.ref r1), some (.ref r2), some (.int v3), some (.int (v4 + 1)), none, none, none, none, none, none] [] h Q) : Vw G jX4_agree 163 [some (.ref 68), some (.ref r1), some (.ref r2), some (.int v3), some (.int v4), none, none, none, none, none, none] [] h Q :=
  s_iinc 1 dX4_agree_163 rfl (by decide) (Nat.le_of_ble_eq_true rfl) rfl (s_goto 5 dX4_agree_166 rfl (K))
theorem eX4_agree {G : GX} {h : mH} {Q : mO → mH → Prop} {r1 : Nat} {r2 : Nat} (hi : Iv h) (k1 : kd r1 = (2, 11)) (k2 : kd r2 = (2, 11)) (K : Vw G jX4_agree 5 [some (.ref 68), some (.ref r1), some (.ref r2), some (.int (-1)), some (.int 0), none, none, none, none, none, none] [] h Q) : WM G jX4_agree [.ref 68, .ref r1, .ref r2] h Q :=
  WM.body (ls := [some (.ref 68), some (.ref r1), some (.ref r2), none, none, none, none, none, none, none, none]) rfl (by decide +kernel) rfl (Nat.le_of_ble_eq_true rfl) rfl ((bX4_agree_0 hi k1 k2 K))
theorem dX4_findTimes_0 : decode cX4_findTimes 0 = .ok (.iconst 0, 1) := by decide +kernel
theorem dX4_findTimes_1 : decode cX4_findTimes 1 = .ok (.istore 4, 2) := by decide +kernel
theorem dX4_findTimes_3 : decode cX4_findTimes 3 = .ok (.iload 4, 2) := by decide +kernel
theorem dX4_findTimes_5 : decode cX4_findTimes 5 = .ok (.iconst 4, 1) := by decide +kernel
theorem dX4_findTimes_6 : decode cX4_findTimes 6 = .ok (.if_icmp .ge 130, 3) := by decide +kernel
theorem dX4_findTimes_9 : decode cX4_findTimes 9 = .ok (.aload_n 1, 1) := by decide +kernel
theorem dX4_findTimes_10 : decode cX4_findTimes 10 = .ok (.iload 4, 2) := by decide +kernel
theorem dX4_findTimes_12 : decode cX4_findTimes 12 = .ok (.invokevirtual 37, 3) := by decide +kernel
theorem dX4_findTimes_15 : decode cX4_findTimes 15 = .ok (.istore 5, 2) := by decide +kernel
theorem dX4_findTimes_17 : decode cX4_findTimes 17 = .ok (.aload_n 1, 1) := by decide +kernel
theorem dX4_findTimes_18 : decode cX4_findTimes 18 = .ok (.getfield 29, 3) := by decide +kernel
theorem dX4_findTimes_21 : decode cX4_findTimes 21 = .ok (.bipush 8, 2) := by decide +kernel
theorem dX4_findTimes_23 : decode cX4_findTimes 23 = .ok (.iload 4, 2) := by decide +kernel
theorem dX4_findTimes_25 : decode cX4_findTimes 25 = .ok (.iadd, 1) := by decide +kernel
theorem dX4_findTimes_26 : decode cX4_findTimes 26 = .ok (.iaload, 1) := by decide +kernel
theorem dX4_findTimes_27 : decode cX4_findTimes 27 = .ok (.ifCond .eq 103, 3) := by decide +kernel
theorem dX4_findTimes_30 : decode cX4_findTimes 30 = .ok (.iload 5, 2) := by decide +kernel
theorem dX4_findTimes_32 : decode cX4_findTimes 32 = .ok (.iconst 1, 1) := by decide +kernel
theorem dX4_findTimes_33 : decode cX4_findTimes 33 = .ok (.if_icmp .ge 6, 3) := by decide +kernel
theorem dX4_findTimes_36 : decode cX4_findTimes 36 = .ok (.goto 94, 3) := by decide +kernel
theorem dX4_findTimes_39 : decode cX4_findTimes 39 = .ok (.aload_n 0, 1) := by decide +kernel
theorem dX4_findTimes_40 : decode cX4_findTimes 40 = .ok (.getfield 9, 3) := by decide +kernel
theorem dX4_findTimes_43 : decode cX4_findTimes 43 = .ok (.iload 4, 2) := by decide +kernel
theorem dX4_findTimes_45 : decode cX4_findTimes 45 = .ok (.iaload, 1) := by decide +kernel
theorem dX4_findTimes_46 : decode cX4_findTimes 46 = .ok (.istore 6, 2) := by decide +kernel
theorem dX4_findTimes_48 : decode cX4_findTimes 48 = .ok (.iload_n 3, 1) := by decide +kernel
theorem dX4_findTimes_49 : decode cX4_findTimes 49 = .ok (.iload 6, 2) := by decide +kernel
theorem dX4_findTimes_51 : decode cX4_findTimes 51 = .ok (.iconst 2, 1) := by decide +kernel
theorem dX4_findTimes_52 : decode cX4_findTimes 52 = .ok (.idiv, 1) := by decide +kernel
theorem dX4_findTimes_53 : decode cX4_findTimes 53 = .ok (.ishr, 1) := by decide +kernel
theorem dX4_findTimes_54 : decode cX4_findTimes 54 = .ok (.iconst 1, 1) := by decide +kernel
theorem dX4_findTimes_55 : decode cX4_findTimes 55 = .ok (.iand, 1) := by decide +kernel
theorem dX4_findTimes_56 : decode cX4_findTimes 56 = .ok (.iconst 1, 1) := by decide +kernel
theorem dX4_findTimes_57 : decode cX4_findTimes 57 = .ok (.if_icmp .ne 7, 3) := by decide +kernel
theorem dX4_findTimes_60 : decode cX4_findTimes 60 = .ok (.iconst 1, 1) := by decide +kernel
theorem dX4_findTimes_61 : decode cX4_findTimes 61 = .ok (.goto 4, 3) := by decide +kernel
theorem dX4_findTimes_64 : decode cX4_findTimes 64 = .ok (.iconst 0, 1) := by decide +kernel
theorem dX4_findTimes_65 : decode cX4_findTimes 65 = .ok (.istore 7, 2) := by decide +kernel
theorem dX4_findTimes_67 : decode cX4_findTimes 67 = .ok (.iload 7, 2) := by decide +kernel
theorem dX4_findTimes_69 : decode cX4_findTimes 69 = .ok (.ifCond .eq 12, 3) := by decide +kernel
theorem dX4_findTimes_72 : decode cX4_findTimes 72 = .ok (.iload 5, 2) := by decide +kernel
theorem dX4_findTimes_74 : decode cX4_findTimes 74 = .ok (.iconst 2, 1) := by decide +kernel
theorem dX4_findTimes_75 : decode cX4_findTimes 75 = .ok (.irem, 1) := by decide +kernel
theorem dX4_findTimes_76 : decode cX4_findTimes 76 = .ok (.ifCond .eq 5, 3) := by decide +kernel
theorem dX4_findTimes_79 : decode cX4_findTimes 79 = .ok (.iconst 0, 1) := by decide +kernel
theorem dX4_findTimes_80 : decode cX4_findTimes 80 = .ok (.ireturn, 1) := by decide +kernel
theorem dX4_findTimes_81 : decode cX4_findTimes 81 = .ok (.aload_n 2, 1) := by decide +kernel
theorem dX4_findTimes_82 : decode cX4_findTimes 82 = .ok (.getfield 29, 3) := by decide +kernel
theorem dX4_findTimes_85 : decode cX4_findTimes 85 = .ok (.iconst 4, 1) := by decide +kernel
theorem dX4_findTimes_86 : decode cX4_findTimes 86 = .ok (.iload 6, 2) := by decide +kernel
theorem dX4_findTimes_88 : decode cX4_findTimes 88 = .ok (.iadd, 1) := by decide +kernel
theorem dX4_findTimes_89 : decode cX4_findTimes 89 = .ok (.iaload, 1) := by decide +kernel
theorem dX4_findTimes_90 : decode cX4_findTimes 90 = .ok (.aload_n 1, 1) := by decide +kernel
theorem dX4_findTimes_91 : decode cX4_findTimes 91 = .ok (.getfield 29, 3) := by decide +kernel
theorem dX4_findTimes_94 : decode cX4_findTimes 94 = .ok (.iconst 4, 1) := by decide +kernel
theorem dX4_findTimes_95 : decode cX4_findTimes 95 = .ok (.iload 4, 2) := by decide +kernel
theorem dX4_findTimes_97 : decode cX4_findTimes 97 = .ok (.iadd, 1) := by decide +kernel
theorem dX4_findTimes_98 : decode cX4_findTimes 98 = .ok (.iaload, 1) := by decide +kernel
theorem dX4_findTimes_99 : decode cX4_findTimes 99 = .ok (.isub, 1) := by decide +kernel
theorem dX4_findTimes_100 : decode cX4_findTimes 100 = .ok (.iload 7, 2) := by decide +kernel
theorem dX4_findTimes_102 : decode cX4_findTimes 102 = .ok (.ifCond .eq 10, 3) := by decide +kernel
theorem dX4_findTimes_105 : decode cX4_findTimes 105 = .ok (.iload 5, 2) := by decide +kernel
theorem dX4_findTimes_107 : decode cX4_findTimes 107 = .ok (.iconst 2, 1) := by decide +kernel
theorem dX4_findTimes_108 : decode cX4_findTimes 108 = .ok (.idiv, 1) := by decide +kernel
theorem dX4_findTimes_109 : decode cX4_findTimes 109 = .ok (.goto 4, 3) := by decide +kernel
theorem dX4_findTimes_112 : decode cX4_findTimes 112 = .ok (.iconst 0, 1) := by decide +kernel
theorem dX4_findTimes_113 : decode cX4_findTimes 113 = .ok (.isub, 1) := by decide +kernel
theorem dX4_findTimes_114 : decode cX4_findTimes 114 = .ok (.istore 8, 2) := by decide +kernel
theorem dX4_findTimes_116 : decode cX4_findTimes 116 = .ok (.aload_n 0, 1) := by decide +kernel
theorem dX4_findTimes_117 : decode cX4_findTimes 117 = .ok (.getfield 15, 3) := by decide +kernel
theorem dX4_findTimes_120 : decode cX4_findTimes 120 = .ok (.iload 4, 2) := by decide +kernel
theorem dX4_findTimes_122 : decode cX4_findTimes 122 = .ok (.iload 8, 2) := by decide +kernel
theorem dX4_findTimes_124 : decode cX4_findTimes 124 = .ok (.iload 5, 2) := by decide +kernel
theorem dX4_findTimes_126 : decode cX4_findTimes 126 = .ok (.invokestatic 49, 3) := by decide +kernel
theorem dX4_findTimes_129 : decode cX4_findTimes 129 = .ok (.iastore, 1) := by decide +kernel
theorem dX4_findTimes_130 : decode cX4_findTimes 130 = .ok (.iinc 4 1, 3) := by decide +kernel
theorem dX4_findTimes_133 : decode cX4_findTimes 133 = .ok (.goto (-130), 3) := by decide +kernel
theorem dX4_findTimes_136 : decode cX4_findTimes 136 = .ok (.iconst 1, 1) := by decide +kernel
theorem dX4_findTimes_137 : decode cX4_findTimes 137 = .ok (.ireturn, 1) := by decide +kernel
theorem bX4_findTimes_0 {G : GX} {h : mH} {Q : mO → mH → Prop} {r1 : Nat} {r2 : Nat} {v3 : Int32} (hi : Iv h) (k1 : kd r1 = (2, 11)) (k2 : kd r2 = (2, 11)) (K : Vw G jX4_findTimes 3 [some (.ref 68), some (.ref r1), some (.ref r2), some (.int v3), some (.int 0), none, none, none, none] [] h Q) : Vw G jX4_findTimes 0 [some (.ref 68), some (.ref r1), some (.ref r2), some (.int v3), none, none, none, none, none] [] h Q :=
  s_iconst 0 dX4_findTimes_0 (by decide) (s_istore dX4_findTimes_1 (Nat.le_of_ble_eq_true rfl) rfl (K))
theorem bX4_findTimes_3 {G : GX} {h : mH} {Q : mO → mH → Prop} {r1 : Nat} {r2 : Nat} {v3 : Int32} {v4 : Int32} (hi : Iv h) (k1 : kd r1 = (2, 11)) (k2 : kd r2 = (2, 11)) (K : (4 ≤ v4 → Q (.inl (some (.int 1))) h) ∧ (¬ 4 ≤ v4 → WM G jX2_period [.ref r1, .int v4] h (Aft G jX4_findTimes 12 [some (.ref 68), some (.ref r1), some (.ref r2), some (.int v3), some (.int v4), none, none, none, none] [] Q))) : Vw G jX4_findTimes 3 [some (.ref 68), some (.ref r1), some (.ref r2), some (.int v3), some (.int v4), none, none, none, none] [] h Q :=
  s_iload dX4_findTimes_3 rfl (s_iconst 4 dX4_findTimes_5 (by decide) (s_icmp_ge 136 dX4_findTimes_6 rfl (fun q2 => s_iconst 1 dX4_findTimes_136 (by decide) (s_zreturn dX4_findTimes_137 rfl (by decide) (K.1 q2))) (fun q2 => s_aload_n dX4_findTimes_9 rfl (s_iload dX4_findTimes_10 rfl (s_callV (As := [.int v4]) dX4_findTimes_12 rfl lvX4_37 ⟨Nat.le_of_ble_eq_true rfl, Nat.le_of_ble_eq_true rfl⟩ (hi.sh k1 rfl) ⟨_, _, by decide, rfl⟩ rfl (Nat.le_of_ble_eq_true rfl) ((K.2 q2)))))))
theorem bX4_findTimes_15 {G : GX} {h : mH} {Q : mO → mH → Prop} {r1 : Nat} {r2 : Nat} {v3 : Int32} {v4 : Int32} {vs0 : Int32} (hi : Iv h) (k1 : kd r1 = (2, 11)) (k2 : kd r2 = (2, 11)) (K : vp_in (8 + v4) 12 ∧ (((gI h (r1 + 4) (Int32.toNatClampNeg (8 + v4))) = 0 → Vw G jX4_findTimes 130 [some (.ref 68), some (.ref r1), some (.ref r2), some (.int v3), some (.int v4), none, none, none, none] [] h Q) ∧ (¬ (gI h (r1 + 4) (Int32.toNatClampNeg (8 + v4))) = 0 → ((1 ≤ vs0 → (vp_in v4 4 ∧ ((¬ ((v3 >>> (((gI h 69 (Int32.toNatClampNeg v4)) / (2 : Int32)) &&& 31)) &&& (1 : Int32)) = 1 → Vw G jX4_findTimes 81 [some (.ref 68), some (.ref r1), some (.ref r2), some (.int v3), some (.int v4), some (.int vs0), some (.int (gI h 69 (Int32.toNatClampNeg v4))), some (.int 0), none] [] h Q) ∧ (((v3 >>> (((gI h 69 (Int32.toNatClampNeg v4)) / (2 : Int32)) &&& 31)) &&& (1 : Int32)) = 1 → (((vs0 - vs0 / (2 : Int32) * (2 : Int32)) = 0 → Vw G jX4_findTimes 81 [some (.ref 68), some (.ref r1), some (.ref r2), some (.int v3), some (.int v4), some (.int vs0), some (.int (gI h 69 (Int32.toNatClampNeg v4))), some (.int 1), none] [] h Q) ∧ (¬ (vs0 - vs0 / (2 : Int32) * (2 : Int32)) = 0 → Q (.inl (some (.int 0))) h)))))) ∧ (¬ 1 ≤ vs0 → Vw G jX4_findTimes 130 [some (.ref 68), some (.ref r1), some (.ref r2), some (.int v3), some (.int v4), none, none, none, none] [] h Q))))) : Vw G jX4_findTimes 15 [some (.ref 68), some (.ref r1), some (.ref r2), some (.int v3), some (.int v4), none, none, none, none] [.int vs0] h Q :=
  s_istore dX4_findTimes_15 (Nat.le_of_ble_eq_true rfl) rfl (s_aload_n dX4_findTimes_17 rfl (s_getR (v := .ref (r1 + 4)) dX4_findTimes_18 flX4_29 rfl (hi.sh k1 rfl) (hi.rf (o := r1) (k := 3) (d := 4) k1 rfl) (s_bipush 8 dX4_findTimes_21 (by decide) (s_iload dX4_findTimes_23 rfl (s_iadd dX4_findTimes_25 (s_iaload dX4_findTimes_26 (hi.sh (kd2_3 k1) rfl) K.1 (s_if_eq 130 dX4_findTimes_27 rfl (fun q7 => Vw.mask [true, true, true, true, true, false, false, false, false] ((K.2.1 q7))) (fun q7 => s_iload dX4_findTimes_30 rfl (s_iconst 1 dX4_findTimes_32 (by decide) (s_icmp_ge 39 dX4_findTimes_33 rfl (fun q10 => s_aload_n dX4_findTimes_39 rfl (s_getR (v := .ref 69) dX4_findTimes_40 flX4_9 rfl (hi.sh rfl rfl) (hi.rf (o := 68) (k := 0) (d := 1) rfl rfl) (s_iload dX4_findTimes_43 rfl (s_iaload dX4_findTimes_45 (hi.sh rfl rfl) ((K.2.2 q7).1 q10).1 (s_istore dX4_findTimes_46 (Nat.le_of_ble_eq_true rfl) rfl (s_iload_n dX4_findTimes_48 rfl (s_iload dX4_findTimes_49 rfl (s_iconst 2 dX4_findTimes_51 (by decide) (s_idiv dX4_findTimes_52 (by decide) (s_ishr dX4_findTimes_53 (s_iconst 1 dX4_findTimes_54 (by decide) (s_iand dX4_findTimes_55 (s_iconst 1 dX4_findTimes_56 (by decide) (s_icmp_ne 64 dX4_findTimes_57 rfl (fun q24 => s_iconst 0 dX4_findTimes_64 (by decide) (s_istore dX4_findTimes_65 (Nat.le_of_ble_eq_true rfl) rfl (s_iload dX4_findTimes_67 rfl (s_if_eq 81 dX4_findTimes_69 rfl (fun _ => (((K.2.2 q7).1 q10).2.1 q24)) (fun q => absurd (by decide) q))))) (fun q24 => s_iconst 1 dX4_findTimes_60 (by decide) (s_goto 65 dX4_findTimes_61 rfl (s_istore dX4_findTimes_65 (Nat.le_of_ble_eq_true rfl) rfl (s_iload dX4_findTimes_67 rfl (s_if_eq 81 dX4_findTimes_69 rfl (fun q => absurd q (by decide)) (fun _ => s_iload dX4_findTimes_72 rfl (s_iconst 2 dX4_findTimes_74 (by decide) (s_irem dX4_findTimes_75 (by decide) (s_if_eq 81 dX4_findTimes_76 rfl (fun q33 => ((((K.2.2 q7).1 q10).2.2 q24).1 q33)) (fun q33 => s_iconst 0 dX4_findTimes_79 (by decide) (s_zreturn dX4_findTimes_80 rfl (by decide) ((((K.2.2 q7).1 q10).2.2 q24).2 q33)))))))))))))))))))))))))) (fun q10 => s_goto 130 dX4_findTimes_36 rfl (Vw.mask [true, true, true, true, true, false, false, false, false] (((K.2.2 q7).2 q10))))))))))))))
theorem bX4_findTimes_81 {G : GX} {h : mH} {Q : mO → mH → Prop} {r1 : Nat} {r2 : Nat} {v3 : Int32} {v4 : Int32} {v5 : Int32} {v6 : Int32} {v7 : Int32} (hi : Iv h) (k1 : kd r1 = (2, 11)) (k2 : kd r2 = (2, 11)) (K : vp_in (4 + v6) 12 ∧ (vp_in (4 + v4) 12 ∧ ((v7 = 0 → WM G jJ9_floorMod_7cf53 [.int (((gI h (r2 + 4) (Int32.toNatClampNeg (4 + v6))) - (gI h (r1 + 4) (Int32.toNatClampNeg (4 + v4)))) - 0), .int v5] h (Aft G jX4_findTimes 126 [some (.ref 68), some (.ref r1), some (.ref r2), some (.int v3), some (.int v4), none, none, none, none] [.int v4, .ref 70] Q)) ∧ (¬ v7 = 0 → WM G jJ9_floorMod_7cf53 [.int (((gI h (r2 + 4) (Int32.toNatClampNeg (4 + v6))) - (gI h (r1 + 4) (Int32.toNatClampNeg (4 + v4)))) - (v5 / (2 : Int32))), .int v5] h (Aft G jX4_findTimes 126 [some (.ref 68), some (.ref r1), some (.ref r2), some (.int v3), some (.int v4), none, none, none, none] [.int v4, .ref 70] Q))))) : Vw G jX4_findTimes 81 [some (.ref 68), some (.ref r1), some (.ref r2), some (.int v3), some (.int v4), some (.int v5), some (.int v6), some (.int v7), none] [] h Q :=
  s_aload_n dX4_findTimes_81 rfl (s_getR (v := .ref (r2 + 4)) dX4_findTimes_82 flX4_29 rfl (hi.sh k2 rfl) (hi.rf (o := r2) (k := 3) (d := 4) k2 rfl) (s_iconst 4 dX4_findTimes_85 (by decide) (s_iload dX4_findTimes_86 rfl (s_iadd dX4_findTimes_88 (s_iaload dX4_findTimes_89 (hi.sh (kd2_3 k2) rfl) K.1 (s_aload_n dX4_findTimes_90 rfl (s_getR (v := .ref (r1 + 4)) dX4_findTimes_91 flX4_29 rfl (hi.sh k1 rfl) (hi.rf (o := r1) (k := 3) (d := 4) k1 rfl) (s_iconst 4 dX4_findTimes_94 (by decide) (s_iload dX4_findTimes_95 rfl (s_iadd dX4_findTimes_97 (s_iaload dX4_findTimes_98 (hi.sh (kd2_3 k1) rfl) K.2.1 (s_isub dX4_findTimes_99 (s_iload dX4_findTimes_100 rfl (s_if_eq 112 dX4_findTimes_102 rfl (fun q14 => s_iconst 0 dX4_findTimes_112 (by decide) (s_isub dX4_findTimes_113 (s_istore dX4_findTimes_114 (Nat.le_of_ble_eq_true rfl) rfl (s_aload_n dX4_findTimes_116 rfl (s_getR (v := .ref 70) dX4_findTimes_117 flX4_15 rfl (hi.sh rfl rfl) (hi.rf (o := 68) (k := 1) (d := 2) rfl rfl) (s_iload dX4_findTimes_120 rfl (s_iload dX4_findTimes_122 rfl (s_iload dX4_findTimes_124 rfl (Vw.mask [true, true, true, true, true, false, false, false, false] (s_callS (As := [.int (((gI h (r2 + 4) (Int32.toNatClampNeg (4 + v6))) - (gI h (r1 + 4) (Int32.toNatClampNeg (4 + v4)))) - 0), .int v5]) dX4_findTimes_126 rfl lsX4_49 ⟨Nat.le_of_ble_eq_true rfl, Nat.le_of_ble_eq_true rfl⟩ rfl (Nat.le_of_ble_eq_true rfl) ((K.2.2.1 q14)))))))))))) (fun q14 => s_iload dX4_findTimes_105 rfl (s_iconst 2 dX4_findTimes_107 (by decide) (s_idiv dX4_findTimes_108 (by decide) (s_goto 113 dX4_findTimes_109 rfl (s_isub dX4_findTimes_113 (s_istore dX4_findTimes_114 (Nat.le_of_ble_eq_true rfl) rfl (s_aload_n dX4_findTimes_116 rfl (s_getR (v := .ref 70) dX4_findTimes_117 flX4_15 rfl (hi.sh rfl rfl) (hi.rf (o := 68) (k := 1) (d := 2) rfl rfl) (s_iload dX4_findTimes_120 rfl (s_iload dX4_findTimes_122 rfl (s_iload dX4_findTimes_124 rfl (Vw.mask [true, true, true, true, true, false, false, false, false] (s_callS (As := [.int (((gI h (r2 + 4) (Int32.toNatClampNeg (4 + v6))) - (gI h (r1 + 4) (Int32.toNatClampNeg (4 + v4)))) - (v5 / (2 : Int32))), .int v5]) dX4_findTimes_126 rfl lsX4_49 ⟨Nat.le_of_ble_eq_true rfl, Nat.le_of_ble_eq_true rfl⟩ rfl (Nat.le_of_ble_eq_true rfl) ((K.2.2.2 q14)))))))))))))))))))))))))))))
theorem bX4_findTimes_129 {G : GX} {h : mH} {Q : mO → mH → Prop} {r1 : Nat} {r2 : Nat} {v3 : Int32} {v4 : Int32} {vs0 : Int32} {vs1 : Int32} (hi : Iv h) (k1 : kd r1 = (2, 11)) (k2 : kd r2 = (2, 11)) (K : vp_in vs1 4 ∧ Vw G jX4_findTimes 130 [some (.ref 68), some (.ref r1), some (.ref r2), some (.int v3), some (.int v4), none, none, none, none] [] (pI h 70 (Int32.toNatClampNeg vs1) vs0) Q) : Vw G jX4_findTimes 129 [some (.ref 68), some (.ref r1), some (.ref r2), some (.int v3), some (.int v4), none, none, none, none] [.int vs0, .int vs1, .ref 70] h Q :=
  s_iastore dX4_findTimes_129 (hi.sh rfl rfl) K.1 (K.2)
theorem bX4_findTimes_130 {G : GX} {h : mH} {Q : mO → mH → Prop} {r1 : Nat} {r2 : Nat} {v3 : Int32} {v4 : Int32} (hi : Iv h) (k1 : kd r1 = (2, 11)) (k2 : kd r2 = (2, 11)) (K : Vw G jX4_findTimes 3 [some (.ref 68), some (.ref r1), some (.ref r2), some (.int v3), some (.int (v4 + 1)), none, none, none, none] [] h Q) : Vw G jX4_findTimes 130 [some (.ref 68), some (.ref r1), some (.ref r2), some (.int v3), some (.int v4), none, none, none, none] [] h Q :=
  s_iinc 1 dX4_findTimes_130 rfl (by decide) (Nat.le_of_ble_eq_true rfl) rfl (s_goto 3 dX4_findTimes_133 rfl (K))
theorem eX4_findTimes {G : GX} {h : mH} {Q : mO → mH → Prop} {r1 : Nat} {r2 : Nat} {v3 : Int32} (hi : Iv h) (k1 : kd r1 = (2, 11)) (k2 : kd r2 = (2, 11)) (K : Vw G jX4_findTimes 3 [some (.ref 68), some (.ref r1), some (.ref r2), some (.int v3), some (.int 0), none, none, none, none] [] h Q) : WM G jX4_findTimes [.ref 68, .ref r1, .ref r2, .int v3] h Q :=
  WM.body (ls := [some (.ref 68), some (.ref r1), some (.ref r2), some (.int v3), none, none, none, none, none]) rfl (by decide +kernel) rfl (Nat.le_of_ble_eq_true rfl) rfl ((bX4_findTimes_0 hi k1 k2 K))
theorem dX4_oneTimeForAll_0 : decode cX4_oneTimeForAll 0 = .ok (.iconst 1, 1) := by decide +kernel
theorem dX4_oneTimeForAll_1 : decode cX4_oneTimeForAll 1 = .ok (.istore_n 2, 1) := by decide +kernel
theorem dX4_oneTimeForAll_2 : decode cX4_oneTimeForAll 2 = .ok (.iload_n 2, 1) := by decide +kernel
theorem dX4_oneTimeForAll_3 : decode cX4_oneTimeForAll 3 = .ok (.iconst 4, 1) := by decide +kernel
theorem dX4_oneTimeForAll_4 : decode cX4_oneTimeForAll 4 = .ok (.if_icmp .ge 99, 3) := by decide +kernel
theorem dX4_oneTimeForAll_7 : decode cX4_oneTimeForAll 7 = .ok (.iconst 0, 1) := by decide +kernel
theorem dX4_oneTimeForAll_8 : decode cX4_oneTimeForAll 8 = .ok (.istore_n 3, 1) := by decide +kernel
theorem dX4_oneTimeForAll_9 : decode cX4_oneTimeForAll 9 = .ok (.iload_n 3, 1) := by decide +kernel
theorem dX4_oneTimeForAll_10 : decode cX4_oneTimeForAll 10 = .ok (.iload_n 2, 1) := by decide +kernel
theorem dX4_oneTimeForAll_11 : decode cX4_oneTimeForAll 11 = .ok (.if_icmp .ge 86, 3) := by decide +kernel
theorem dX4_oneTimeForAll_14 : decode cX4_oneTimeForAll 14 = .ok (.aload_n 1, 1) := by decide +kernel
theorem dX4_oneTimeForAll_15 : decode cX4_oneTimeForAll 15 = .ok (.getfield 29, 3) := by decide +kernel
theorem dX4_oneTimeForAll_18 : decode cX4_oneTimeForAll 18 = .ok (.bipush 8, 2) := by decide +kernel
theorem dX4_oneTimeForAll_20 : decode cX4_oneTimeForAll 20 = .ok (.iload_n 2, 1) := by decide +kernel
theorem dX4_oneTimeForAll_21 : decode cX4_oneTimeForAll 21 = .ok (.iadd, 1) := by decide +kernel
theorem dX4_oneTimeForAll_22 : decode cX4_oneTimeForAll 22 = .ok (.iaload, 1) := by decide +kernel
theorem dX4_oneTimeForAll_23 : decode cX4_oneTimeForAll 23 = .ok (.ifCond .le 19, 3) := by decide +kernel
theorem dX4_oneTimeForAll_26 : decode cX4_oneTimeForAll 26 = .ok (.aload_n 1, 1) := by decide +kernel
theorem dX4_oneTimeForAll_27 : decode cX4_oneTimeForAll 27 = .ok (.getfield 29, 3) := by decide +kernel
theorem dX4_oneTimeForAll_30 : decode cX4_oneTimeForAll 30 = .ok (.bipush 8, 2) := by decide +kernel
theorem dX4_oneTimeForAll_32 : decode cX4_oneTimeForAll 32 = .ok (.iload_n 3, 1) := by decide +kernel
theorem dX4_oneTimeForAll_33 : decode cX4_oneTimeForAll 33 = .ok (.iadd, 1) := by decide +kernel
theorem dX4_oneTimeForAll_34 : decode cX4_oneTimeForAll 34 = .ok (.iaload, 1) := by decide +kernel
theorem dX4_oneTimeForAll_35 : decode cX4_oneTimeForAll 35 = .ok (.ifCond .le 7, 3) := by decide +kernel
theorem dX4_oneTimeForAll_38 : decode cX4_oneTimeForAll 38 = .ok (.iconst 1, 1) := by decide +kernel
theorem dX4_oneTimeForAll_39 : decode cX4_oneTimeForAll 39 = .ok (.goto 4, 3) := by decide +kernel
theorem dX4_oneTimeForAll_42 : decode cX4_oneTimeForAll 42 = .ok (.iconst 0, 1) := by decide +kernel
theorem dX4_oneTimeForAll_43 : decode cX4_oneTimeForAll 43 = .ok (.istore 4, 2) := by decide +kernel
theorem dX4_oneTimeForAll_45 : decode cX4_oneTimeForAll 45 = .ok (.aload_n 1, 1) := by decide +kernel
theorem dX4_oneTimeForAll_46 : decode cX4_oneTimeForAll 46 = .ok (.iload_n 2, 1) := by decide +kernel
theorem dX4_oneTimeForAll_47 : decode cX4_oneTimeForAll 47 = .ok (.invokevirtual 37, 3) := by decide +kernel
theorem dX4_oneTimeForAll_50 : decode cX4_oneTimeForAll 50 = .ok (.aload_n 1, 1) := by decide +kernel
theorem dX4_oneTimeForAll_51 : decode cX4_oneTimeForAll 51 = .ok (.iload_n 3, 1) := by decide +kernel
theorem dX4_oneTimeForAll_52 : decode cX4_oneTimeForAll 52 = .ok (.invokevirtual 37, 3) := by decide +kernel
theorem dX4_oneTimeForAll_55 : decode cX4_oneTimeForAll 55 = .ok (.invokestatic 55, 3) := by decide +kernel
theorem dX4_oneTimeForAll_58 : decode cX4_oneTimeForAll 58 = .ok (.istore 5, 2) := by decide +kernel
theorem dX4_oneTimeForAll_60 : decode cX4_oneTimeForAll 60 = .ok (.iload 4, 2) := by decide +kernel
theorem dX4_oneTimeForAll_62 : decode cX4_oneTimeForAll 62 = .ok (.ifCond .eq 29, 3) := by decide +kernel
theorem dX4_oneTimeForAll_65 : decode cX4_oneTimeForAll 65 = .ok (.iload 5, 2) := by decide +kernel
theorem dX4_oneTimeForAll_67 : decode cX4_oneTimeForAll 67 = .ok (.ifCond .le 24, 3) := by decide +kernel
theorem dX4_oneTimeForAll_70 : decode cX4_oneTimeForAll 70 = .ok (.aload_n 0, 1) := by decide +kernel
theorem dX4_oneTimeForAll_71 : decode cX4_oneTimeForAll 71 = .ok (.getfield 15, 3) := by decide +kernel
theorem dX4_oneTimeForAll_74 : decode cX4_oneTimeForAll 74 = .ok (.iload_n 2, 1) := by decide +kernel
theorem dX4_oneTimeForAll_75 : decode cX4_oneTimeForAll 75 = .ok (.iaload, 1) := by decide +kernel
theorem dX4_oneTimeForAll_76 : decode cX4_oneTimeForAll 76 = .ok (.aload_n 0, 1) := by decide +kernel
theorem dX4_oneTimeForAll_77 : decode cX4_oneTimeForAll 77 = .ok (.getfield 15, 3) := by decide +kernel
theorem dX4_oneTimeForAll_80 : decode cX4_oneTimeForAll 80 = .ok (.iload_n 3, 1) := by decide +kernel
theorem dX4_oneTimeForAll_81 : decode cX4_oneTimeForAll 81 = .ok (.iaload, 1) := by decide +kernel
theorem dX4_oneTimeForAll_82 : decode cX4_oneTimeForAll 82 = .ok (.isub, 1) := by decide +kernel
theorem dX4_oneTimeForAll_83 : decode cX4_oneTimeForAll 83 = .ok (.iload 5, 2) := by decide +kernel
theorem dX4_oneTimeForAll_85 : decode cX4_oneTimeForAll 85 = .ok (.irem, 1) := by decide +kernel
theorem dX4_oneTimeForAll_86 : decode cX4_oneTimeForAll 86 = .ok (.ifCond .eq 5, 3) := by decide +kernel
theorem dX4_oneTimeForAll_89 : decode cX4_oneTimeForAll 89 = .ok (.iconst 0, 1) := by decide +kernel
theorem dX4_oneTimeForAll_90 : decode cX4_oneTimeForAll 90 = .ok (.ireturn, 1) := by decide +kernel
theorem dX4_oneTimeForAll_91 : decode cX4_oneTimeForAll 91 = .ok (.iinc 3 1, 3) := by decide +kernel
theorem dX4_oneTimeForAll_94 : decode cX4_oneTimeForAll 94 = .ok (.goto (-85), 3) := by decide +kernel
theorem dX4_oneTimeForAll_97 : decode cX4_oneTimeForAll 97 = .ok (.iinc 2 1, 3) := by decide +kernel
theorem dX4_oneTimeForAll_100 : decode cX4_oneTimeForAll 100 = .ok (.goto (-98), 3) := by decide +kernel
theorem dX4_oneTimeForAll_103 : decode cX4_oneTimeForAll 103 = .ok (.iconst 1, 1) := by decide +kernel
theorem dX4_oneTimeForAll_104 : decode cX4_oneTimeForAll 104 = .ok (.ireturn, 1) := by decide +kernel
theorem bX4_oneTimeForAll_0 {G : GX} {h : mH} {Q : mO → mH → Prop} {r1 : Nat} (hi : Iv h) (k1 : kd r1 = (2, 11)) (K : Vw G jX4_oneTimeForAll 2 [some (.ref 68), some (.ref r1), some (.int 1), none, none, none] [] h Q) : Vw G jX4_oneTimeForAll 0 [some (.ref 68), some (.ref r1), none, none, none, none] [] h Q :=
  s_iconst 1 dX4_oneTimeForAll_0 (by decide) (s_istore_n dX4_oneTimeForAll_1 (Nat.le_of_ble_eq_true rfl) rfl (K))
theorem bX4_oneTimeForAll_2 {G : GX} {h : mH} {Q : mO → mH → Prop} {r1 : Nat} {v2 : Int32} (hi : Iv h) (k1 : kd r1 = (2, 11)) (K : (4 ≤ v2 → Q (.inl (some (.int 1))) h) ∧ (¬ 4 ≤ v2 → Vw G jX4_oneTimeForAll 9 [some (.ref 68), some (.ref r1), some (.int v2), some (.int 0), none, none] [] h Q)) : Vw G jX4_oneTimeForAll 2 [some (.ref 68), some (.ref r1), some (.int v2), none, none, none] [] h Q :=
  s_iload_n dX4_oneTimeForAll_2 rfl (s_iconst 4 dX4_oneTimeForAll_3 (by decide) (s_icmp_ge 103 dX4_oneTimeForAll_4 rfl (fun q2 => s_iconst 1 dX4_oneTimeForAll_103 (by decide) (s_zreturn dX4_oneTimeForAll_104 rfl (by decide) (K.1 q2))) (fun q2 => s_iconst 0 dX4_oneTimeForAll_7 (by decide) (s_istore_n dX4_oneTimeForAll_8 (Nat.le_of_ble_eq_true rfl) rfl ((K.2 q2))))))
theorem bX4_oneTimeForAll_9 {G : GX} {h : mH} {Q : mO → mH → Prop} {r1 : Nat} {v2 : Int32} {v3 : Int32} (hi : Iv h) (k1 : kd r1 = (2, 11)) (K : (v2 ≤ v3 → Vw G jX4_oneTimeForAll 2 [some (.ref 68), some (.ref r1), some (.int (v2 + 1)), none, none, none] [] h Q) ∧ (¬ v2 ≤ v3 → (vp_in (8 + v2) 12 ∧ (((gI h (r1 + 4) (Int32.toNatClampNeg (8 + v2))) ≤ 0 → Vw G jX4_oneTimeForAll 42 [some (.ref 68), some (.ref r1), some (.int v2), some (.int v3), none, none] [] h Q) ∧ (¬ (gI h (r1 + 4) (Int32.toNatClampNeg (8 + v2))) ≤ 0 → (vp_in (8 + v3) 12 ∧ (((gI h (r1 + 4) (Int32.toNatClampNeg (8 + v3))) ≤ 0 → Vw G jX4_oneTimeForAll 42 [some (.ref 68), some (.ref r1), some (.int v2), some (.int v3), none, none] [] h Q) ∧ (¬ (gI h (r1 + 4) (Int32.toNatClampNeg (8 + v3))) ≤ 0 → WM G jX2_period [.ref r1, .int v2] h (Aft G jX4_oneTimeForAll 47 [some (.ref 68), some (.ref r1), some (.int v2), some (.int v3), some (.int 1), none] [] Q))))))))) : Vw G jX4_oneTimeForAll 9 [some (.ref 68), some (.ref r1), some (.int v2), some (.int v3), none, none] [] h Q :=
  s_iload_n dX4_oneTimeForAll_9 rfl (s_iload_n dX4_oneTimeForAll_10 rfl (s_icmp_ge 97 dX4_oneTimeForAll_11 rfl (fun q2 => s_iinc 1 dX4_oneTimeForAll_97 rfl (by decide) (Nat.le_of_ble_eq_true rfl) rfl (s_goto 2 dX4_oneTimeForAll_100 rfl (Vw.mask [true, true, true, false, false, false] ((K.1 q2))))) (fun q2 => s_aload_n dX4_oneTimeForAll_14 rfl (s_getR (v := .ref (r1 + 4)) dX4_oneTimeForAll_15 flX4_29 rfl (hi.sh k1 rfl) (hi.rf (o := r1) (k := 3) (d := 4) k1 rfl) (s_bipush 8 dX4_oneTimeForAll_18 (by decide) (s_iload_n dX4_oneTimeForAll_20 rfl (s_iadd dX4_oneTimeForAll_21 (s_iaload dX4_oneTimeForAll_22 (hi.sh (kd2_3 k1) rfl) (K.2 q2).1 (s_if_le 42 dX4_oneTimeForAll_23 rfl (fun q9 => ((K.2 q2).2.1 q9)) (fun q9 => s_aload_n dX4_oneTimeForAll_26 rfl (s_getR (v := .ref (r1 + 4)) dX4_oneTimeForAll_27 flX4_29 rfl (hi.sh k1 rfl) (hi.rf (o := r1) (k := 3) (d := 4) k1 rfl) (s_bipush 8 dX4_oneTimeForAll_30 (by decide) (s_iload_n dX4_oneTimeForAll_32 rfl (s_iadd dX4_oneTimeForAll_33 (s_iaload dX4_oneTimeForAll_34 (hi.sh (kd2_3 k1) rfl) ((K.2 q2).2.2 q9).1 (s_if_le 42 dX4_oneTimeForAll_35 rfl (fun q16 => (((K.2 q2).2.2 q9).2.1 q16)) (fun q16 => s_iconst 1 dX4_oneTimeForAll_38 (by decide) (s_goto 43 dX4_oneTimeForAll_39 rfl (s_istore dX4_oneTimeForAll_43 (Nat.le_of_ble_eq_true rfl) rfl (s_aload_n dX4_oneTimeForAll_45 rfl (s_iload_n dX4_oneTimeForAll_46 rfl (s_callV (As := [.int v2]) dX4_oneTimeForAll_47 rfl lvX4_37 ⟨Nat.le_of_ble_eq_true rfl, Nat.le_of_ble_eq_true rfl⟩ (hi.sh k1 rfl) ⟨_, _, by decide, rfl⟩ rfl (Nat.le_of_ble_eq_true rfl) ((((K.2 q2).2.2 q9).2.2 q16))))))))))))))))))))))))
theorem bX4_oneTimeForAll_42 {G : GX} {h : mH} {Q : mO → mH → Prop} {r1 : Nat} {v2 : Int32} {v3 : Int32} (hi : Iv h) (k1 : kd r1 = (2, 11)) (K : WM G jX2_period [.ref r1, .int v2] h (Aft G jX4_oneTimeForAll 47 [some (.ref 68), some (.ref r1), some (.int v2), some (.int v3), some (.int 0), none] [] Q)) : Vw G jX4_oneTimeForAll 42 [some (.ref 68), some (.ref r1), some (.int v2), some (.int v3), none, none] [] h Q :=
  s_iconst 0 dX4_oneTimeForAll_42 (by decide) (s_istore dX4_oneTimeForAll_43 (Nat.le_of_ble_eq_true rfl) rfl (s_aload_n dX4_oneTimeForAll_45 rfl (s_iload_n dX4_oneTimeForAll_46 rfl (s_callV (As := [.int v2]) dX4_oneTimeForAll_47 rfl lvX4_37 ⟨Nat.le_of_ble_eq_true rfl, Nat.le_of_ble_eq_true rfl⟩ (hi.sh k1 rfl) ⟨_, _, by decide, rfl⟩ rfl (Nat.le_of_ble_eq_true rfl) (K)))))
theorem bX4_oneTimeForAll_50 {G : GX} {h : mH} {Q : mO → mH → Prop} {r1 : Nat} {v2 : Int32} {v3 : Int32} {v4 : Int32} {vs0 : Int32} (hi : Iv h) (k1 : kd r1 = (2, 11)) (K : WM G jX2_period [.ref r1, .int v3] h (Aft G jX4_oneTimeForAll 52 [some (.ref 68), some (.ref r1), some (.int v2), some (.int v3), some (.int v4), none] [.int vs0] Q)) : Vw G jX4_oneTimeForAll 50 [some (.ref 68), some (.ref r1), some (.int v2), some (.int v3), some (.int v4), none] [.int vs0] h Q :=
  s_aload_n dX4_oneTimeForAll_50 rfl (s_iload_n dX4_oneTimeForAll_51 rfl (s_callV (As := [.int v3]) dX4_oneTimeForAll_52 rfl lvX4_37 ⟨Nat.le_of_ble_eq_true rfl, Nat.le_of_ble_eq_true rfl⟩ (hi.sh k1 rfl) ⟨_, _, by decide, rfl⟩ rfl (Nat.le_of_ble_eq_true rfl) (K)))
theorem bX4_oneTimeForAll_55 {G : GX} {h : mH} {Q : mO → mH → Prop} {r1 : Nat} {v2 : Int32} {v3 : Int32} {v4 : Int32} {vs0 : Int32} {vs1 : Int32} (hi : Iv h) (k1 : kd r1 = (2, 11)) (K : WM G jX10_greatestCommon [.int vs1, .int vs0] h (Aft0 G jX4_oneTimeForAll 55 [some (.ref 68), some (.ref r1), some (.int v2), some (.int v3), some (.int v4), none] [] Q)) : Vw G jX4_oneTimeForAll 55 [some (.ref 68), some (.ref r1), some (.int v2), some (.int v3), some (.int v4), none] [.int vs0, .int vs1] h Q :=
  s_callSN (As := [.int vs1, .int vs0]) dX4_oneTimeForAll_55 rfl lnX4_55 w_535 ⟨Nat.le_of_ble_eq_true rfl, Nat.le_of_ble_eq_true rfl⟩ rfl (Nat.le_of_ble_eq_true rfl) (K)
theorem bX4_oneTimeForAll_58 {G : GX} {h : mH} {Q : mO → mH → Prop} {r1 : Nat} {v2 : Int32} {v3 : Int32} {v4 : Int32} {vs0 : Int32} (hi : Iv h) (k1 : kd r1 = (2, 11)) (K : (v4 = 0 → Vw G jX4_oneTimeForAll 91 [some (.ref 68), some (.ref r1), some (.int v2), some (.int v3), none, none] [] h Q) ∧ (¬ v4 = 0 → ((vs0 ≤ 0 → Vw G jX4_oneTimeForAll 91 [some (.ref 68), some (.ref r1), some (.int v2), some (.int v3), none, none] [] h Q) ∧ (¬ vs0 ≤ 0 → (vp_in v2 4 ∧ (vp_in v3 4 ∧ (¬ vs0 = 0 ∧ (((((gI h 70 (Int32.toNatClampNeg v2)) - (gI h 70 (Int32.toNatClampNeg v3))) - ((gI h 70 (Int32.toNatClampNeg v2)) - (gI h 70 (Int32.toNatClampNeg v3))) / vs0 * vs0) = 0 → Vw G jX4_oneTimeForAll 91 [some (.ref 68), some (.ref r1), some (.int v2), some (.int v3), none, none] [] h Q) ∧ (¬ (((gI h 70 (Int32.toNatClampNeg v2)) - (gI h 70 (Int32.toNatClampNeg v3))) - ((gI h 70 (Int32.toNatClampNeg v2)) - (gI h 70 (Int32.toNatClampNeg v3))) / vs0 * vs0) = 0 → Q (.inl (some (.int 0))) h))))))))) : Vw G jX4_oneTimeForAll 58 [some (.ref 68), some (.ref r1), some (.int v2), some (.int v3), some (.int v4), none] [.int vs0] h Q :=
  s_istore dX4_oneTimeForAll_58 (Nat.le_of_ble_eq_true rfl) rfl (s_iload dX4_oneTimeForAll_60 rfl (s_if_eq 91 dX4_oneTimeForAll_62 rfl (fun q2 => Vw.mask [true, true, true, true, false, false] ((K.1 q2))) (fun q2 => s_iload dX4_oneTimeForAll_65 rfl (s_if_le 91 dX4_oneTimeForAll_67 rfl (fun q4 => Vw.mask [true, true, true, true, false, false] (((K.2 q2).1 q4))) (fun q4 => s_aload_n dX4_oneTimeForAll_70 rfl (s_getR (v := .ref 70) dX4_oneTimeForAll_71 flX4_15 rfl (hi.sh rfl rfl) (hi.rf (o := 68) (k := 1) (d := 2) rfl rfl) (s_iload_n dX4_oneTimeForAll_74 rfl (s_iaload dX4_oneTimeForAll_75 (hi.sh rfl rfl) ((K.2 q2).2 q4).1 (s_aload_n dX4_oneTimeForAll_76 rfl (s_getR (v := .ref 70) dX4_oneTimeForAll_77 flX4_15 rfl (hi.sh rfl rfl) (hi.rf (o := 68) (k := 1) (d := 2) rfl rfl) (s_iload_n dX4_oneTimeForAll_80 rfl (s_iaload dX4_oneTimeForAll_81 (hi.sh rfl rfl) ((K.2 q2).2 q4).2.1 (s_isub dX4_oneTimeForAll_82 (s_iload dX4_oneTimeForAll_83 rfl (s_irem dX4_oneTimeForAll_85 ((K.2 q2).2 q4).2.2.1 (s_if_eq 91 dX4_oneTimeForAll_86 rfl (fun q16 => Vw.mask [true, true, true, true, false, false] ((((K.2 q2).2 q4).2.2.2.1 q16))) (fun q16 => s_iconst 0 dX4_oneTimeForAll_89 (by decide) (s_zreturn dX4_oneTimeForAll_90 rfl (by decide) (((K.2 q2).2 q4).2.2.2.2 q16)))))))))))))))))))
theorem bX4_oneTimeForAll_91 {G : GX} {h : mH} {Q : mO → mH → Prop} {r1 : Nat} {v2 : Int32} {v3 : Int32} (hi : Iv h) (k1 : kd r1 = (2, 11)) (K : Vw G jX4_oneTimeForAll 9 [some (.ref 68), some (.ref r1), some (.int v2), some (.int (v3 + 1)), none, none] [] h Q) : Vw G jX4_oneTimeForAll 91 [some (.ref 68), some (.ref r1), some (.int v2), some (.int v3), none, none] [] h Q :=
  s_iinc 1 dX4_oneTimeForAll_91 rfl (by decide) (Nat.le_of_ble_eq_true rfl) rfl (s_goto 9 dX4_oneTimeForAll_94 rfl (K))
theorem eX4_oneTimeForAll {G : GX} {h : mH} {Q : mO → mH → Prop} {r1 : Nat} (hi : Iv h) (k1 : kd r1 = (2, 11)) (K : Vw G jX4_oneTimeForAll 2 [some (.ref 68), some (.ref r1), some (.int 1), none, none, none] [] h Q) : WM G jX4_oneTimeForAll [.ref 68, .ref r1] h Q :=
  WM.body (ls := [some (.ref 68), some (.ref r1), none, none, none, none]) rfl (by decide +kernel) rfl (Nat.le_of_ble_eq_true rfl) rfl ((bX4_oneTimeForAll_0 hi k1 K))
theorem dX4_meet_0 : decode cX4_meet 0 = .ok (.iconst 0, 1) := by decide +kernel
theorem dX4_meet_1 : decode cX4_meet 1 = .ok (.istore_n 3, 1) := by decide +kernel
theorem dX4_meet_2 : decode cX4_meet 2 = .ok (.iload_n 3, 1) := by decide +kernel
theorem dX4_meet_3 : decode cX4_meet 3 = .ok (.iconst 4, 1) := by decide +kernel
theorem dX4_meet_4 : decode cX4_meet 4 = .ok (.if_icmp .ge 29, 3) := by decide +kernel
theorem dX4_meet_7 : decode cX4_meet 7 = .ok (.aload_n 0, 1) := by decide +kernel
theorem dX4_meet_8 : decode cX4_meet 8 = .ok (.aload_n 1, 1) := by decide +kernel
theorem dX4_meet_9 : decode cX4_meet 9 = .ok (.aload_n 2, 1) := by decide +kernel
theorem dX4_meet_10 : decode cX4_meet 10 = .ok (.iload_n 3, 1) := by decide +kernel
theorem dX4_meet_11 : decode cX4_meet 11 = .ok (.invokevirtual 41, 3) := by decide +kernel
theorem dX4_meet_14 : decode cX4_meet 14 = .ok (.ifCond .eq 13, 3) := by decide +kernel
theorem dX4_meet_17 : decode cX4_meet 17 = .ok (.aload_n 0, 1) := by decide +kernel
theorem dX4_meet_18 : decode cX4_meet 18 = .ok (.aload_n 1, 1) := by decide +kernel
theorem dX4_meet_19 : decode cX4_meet 19 = .ok (.invokevirtual 45, 3) := by decide +kernel
theorem dX4_meet_22 : decode cX4_meet 22 = .ok (.ifCond .eq 5, 3) := by decide +kernel
theorem dX4_meet_25 : decode cX4_meet 25 = .ok (.iconst 1, 1) := by decide +kernel
theorem dX4_meet_26 : decode cX4_meet 26 = .ok (.ireturn, 1) := by decide +kernel
theorem dX4_meet_27 : decode cX4_meet 27 = .ok (.iinc 3 1, 3) := by decide +kernel
theorem dX4_meet_30 : decode cX4_meet 30 = .ok (.goto (-28), 3) := by decide +kernel
theorem dX4_meet_33 : decode cX4_meet 33 = .ok (.iconst 0, 1) := by decide +kernel
theorem dX4_meet_34 : decode cX4_meet 34 = .ok (.ireturn, 1) := by decide +kernel
theorem bX4_meet_0 {G : GX} {h : mH} {Q : mO → mH → Prop} {r1 : Nat} {r2 : Nat} (hi : Iv h) (k1 : kd r1 = (2, 11)) (k2 : kd r2 = (2, 11)) (K : Vw G jX4_meet 2 [some (.ref 68), some (.ref r1), some (.ref r2), some (.int 0)] [] h Q) : Vw G jX4_meet 0 [some (.ref 68), some (.ref r1), some (.ref r2), none] [] h Q :=
  s_iconst 0 dX4_meet_0 (by decide) (s_istore_n dX4_meet_1 (Nat.le_of_ble_eq_true rfl) rfl (K))
theorem bX4_meet_2 {G : GX} {h : mH} {Q : mO → mH → Prop} {r1 : Nat} {r2 : Nat} {v3 : Int32} (hi : Iv h) (k1 : kd r1 = (2, 11)) (k2 : kd r2 = (2, 11)) (K : (4 ≤ v3 → Q (.inl (some (.int 0))) h) ∧ (¬ 4 ≤ v3 → WM G jX4_findTimes [.ref 68, .ref r1, .ref r2, .int v3] h (Aft G jX4_meet 11 [some (.ref 68), some (.ref r1), some (.ref r2), some (.int v3)] [] Q))) : Vw G jX4_meet 2 [some (.ref 68), some (.ref r1), some (.ref r2), some (.int v3)] [] h Q :=
  s_iload_n dX4_meet_2 rfl (s_iconst 4 dX4_meet_3 (by decide) (s_icmp_ge 33 dX4_meet_4 rfl (fun q2 => s_iconst 0 dX4_meet_33 (by decide) (s_zreturn dX4_meet_34 rfl (by decide) (K.1 q2))) (fun q2 => s_aload_n dX4_meet_7 rfl (s_aload_n dX4_meet_8 rfl (s_aload_n dX4_meet_9 rfl (s_iload_n dX4_meet_10 rfl (s_callV (As := [.ref r1, .ref r2, .int v3]) dX4_meet_11 rfl lvX4_41 ⟨Nat.le_of_ble_eq_true rfl, Nat.le_of_ble_eq_true rfl⟩ (hi.sh rfl rfl) ⟨_, _, by decide, rfl⟩ rfl (Nat.le_of_ble_eq_true rfl) ((K.2 q2)))))))))
theorem bX4_meet_14 {G : GX} {h : mH} {Q : mO → mH → Prop} {r1 : Nat} {r2 : Nat} {v3 : Int32} {vs0 : Int32} (hi : Iv h) (k1 : kd r1 = (2, 11)) (k2 : kd r2 = (2, 11)) (K : (vs0 = 0 → Vw G jX4_meet 27 [some (.ref 68), some (.ref r1), some (.ref r2), some (.int v3)] [] h Q) ∧ (¬ vs0 = 0 → WM G jX4_oneTimeForAll [.ref 68, .ref r1] h (Aft G jX4_meet 19 [some (.ref 68), some (.ref r1), some (.ref r2), some (.int v3)] [] Q))) : Vw G jX4_meet 14 [some (.ref 68), some (.ref r1), some (.ref r2), some (.int v3)] [.int vs0] h Q :=
  s_if_eq 27 dX4_meet_14 rfl (fun q0 => (K.1 q0)) (fun q0 => s_aload_n dX4_meet_17 rfl (s_aload_n dX4_meet_18 rfl (s_callV (As := [.ref r1]) dX4_meet_19 rfl lvX4_45 ⟨Nat.le_of_ble_eq_true rfl, Nat.le_of_ble_eq_true rfl⟩ (hi.sh rfl rfl) ⟨_, _, by decide, rfl⟩ rfl (Nat.le_of_ble_eq_true rfl) ((K.2 q0)))))
theorem bX4_meet_22 {G : GX} {h : mH} {Q : mO → mH → Prop} {r1 : Nat} {r2 : Nat} {v3 : Int32} {vs0 : Int32} (hi : Iv h) (k1 : kd r1 = (2, 11)) (k2 : kd r2 = (2, 11)) (K : (vs0 = 0 → Vw G jX4_meet 27 [some (.ref 68), some (.ref r1), some (.ref r2), some (.int v3)] [] h Q) ∧ (¬ vs0 = 0 → Q (.inl (some (.int 1))) h)) : Vw G jX4_meet 22 [some (.ref 68), some (.ref r1), some (.ref r2), some (.int v3)] [.int vs0] h Q :=
  s_if_eq 27 dX4_meet_22 rfl (fun q0 => (K.1 q0)) (fun q0 => s_iconst 1 dX4_meet_25 (by decide) (s_zreturn dX4_meet_26 rfl (by decide) (K.2 q0)))
theorem bX4_meet_27 {G : GX} {h : mH} {Q : mO → mH → Prop} {r1 : Nat} {r2 : Nat} {v3 : Int32} (hi : Iv h) (k1 : kd r1 = (2, 11)) (k2 : kd r2 = (2, 11)) (K : Vw G jX4_meet 2 [some (.ref 68), some (.ref r1), some (.ref r2), some (.int (v3 + 1))] [] h Q) : Vw G jX4_meet 27 [some (.ref 68), some (.ref r1), some (.ref r2), some (.int v3)] [] h Q :=
  s_iinc 1 dX4_meet_27 rfl (by decide) (Nat.le_of_ble_eq_true rfl) rfl (s_goto 2 dX4_meet_30 rfl (K))
theorem eX4_meet {G : GX} {h : mH} {Q : mO → mH → Prop} {r1 : Nat} {r2 : Nat} (hi : Iv h) (k1 : kd r1 = (2, 11)) (k2 : kd r2 = (2, 11)) (K : Vw G jX4_meet 2 [some (.ref 68), some (.ref r1), some (.ref r2), some (.int 0)] [] h Q) : WM G jX4_meet [.ref 68, .ref r1, .ref r2] h Q :=
  WM.body (ls := [some (.ref 68), some (.ref r1), some (.ref r2), none]) rfl (by decide +kernel) rfl (Nat.le_of_ble_eq_true rfl) rfl ((bX4_meet_0 hi k1 k2 K))
theorem dX4_joins_0 : decode cX4_joins 0 = .ok (.iconst 0, 1) := by decide +kernel
theorem dX4_joins_1 : decode cX4_joins 1 = .ok (.istore_n 3, 1) := by decide +kernel
theorem dX4_joins_2 : decode cX4_joins 2 = .ok (.iload_n 3, 1) := by decide +kernel
theorem dX4_joins_3 : decode cX4_joins 3 = .ok (.bipush 8, 2) := by decide +kernel
theorem dX4_joins_5 : decode cX4_joins 5 = .ok (.if_icmp .ge 34, 3) := by decide +kernel
theorem dX4_joins_8 : decode cX4_joins 8 = .ok (.aload_n 0, 1) := by decide +kernel
theorem dX4_joins_9 : decode cX4_joins 9 = .ok (.iload_n 3, 1) := by decide +kernel
theorem dX4_joins_10 : decode cX4_joins 10 = .ok (.invokevirtual 18, 3) := by decide +kernel
theorem dX4_joins_13 : decode cX4_joins 13 = .ok (.aload_n 0, 1) := by decide +kernel
theorem dX4_joins_14 : decode cX4_joins 14 = .ok (.aload_n 1, 1) := by decide +kernel
theorem dX4_joins_15 : decode cX4_joins 15 = .ok (.aload_n 2, 1) := by decide +kernel
theorem dX4_joins_16 : decode cX4_joins 16 = .ok (.invokevirtual 22, 3) := by decide +kernel
theorem dX4_joins_19 : decode cX4_joins 19 = .ok (.ifCond .eq 14, 3) := by decide +kernel
theorem dX4_joins_22 : decode cX4_joins 22 = .ok (.aload_n 0, 1) := by decide +kernel
theorem dX4_joins_23 : decode cX4_joins 23 = .ok (.aload_n 1, 1) := by decide +kernel
theorem dX4_joins_24 : decode cX4_joins 24 = .ok (.aload_n 2, 1) := by decide +kernel
theorem dX4_joins_25 : decode cX4_joins 25 = .ok (.invokevirtual 26, 3) := by decide +kernel
theorem dX4_joins_28 : decode cX4_joins 28 = .ok (.ifCond .eq 5, 3) := by decide +kernel
theorem dX4_joins_31 : decode cX4_joins 31 = .ok (.iconst 1, 1) := by decide +kernel
theorem dX4_joins_32 : decode cX4_joins 32 = .ok (.ireturn, 1) := by decide +kernel
theorem dX4_joins_33 : decode cX4_joins 33 = .ok (.iinc 3 1, 3) := by decide +kernel
theorem dX4_joins_36 : decode cX4_joins 36 = .ok (.goto (-34), 3) := by decide +kernel
theorem dX4_joins_39 : decode cX4_joins 39 = .ok (.iconst 0, 1) := by decide +kernel
theorem dX4_joins_40 : decode cX4_joins 40 = .ok (.ireturn, 1) := by decide +kernel
theorem bX4_joins_0 {G : GX} {h : mH} {Q : mO → mH → Prop} {r1 : Nat} {r2 : Nat} (hi : Iv h) (k1 : kd r1 = (2, 11)) (k2 : kd r2 = (2, 11)) (K : Vw G jX4_joins 2 [some (.ref 68), some (.ref r1), some (.ref r2), some (.int 0)] [] h Q) : Vw G jX4_joins 0 [some (.ref 68), some (.ref r1), some (.ref r2), none] [] h Q :=
  s_iconst 0 dX4_joins_0 (by decide) (s_istore_n dX4_joins_1 (Nat.le_of_ble_eq_true rfl) rfl (K))
theorem bX4_joins_2 {G : GX} {h : mH} {Q : mO → mH → Prop} {r1 : Nat} {r2 : Nat} {v3 : Int32} (hi : Iv h) (k1 : kd r1 = (2, 11)) (k2 : kd r2 = (2, 11)) (K : (8 ≤ v3 → Q (.inl (some (.int 0))) h) ∧ (¬ 8 ≤ v3 → WM G jX4_pair [.ref 68, .int v3] h (Aft G jX4_joins 10 [some (.ref 68), some (.ref r1), some (.ref r2), some (.int v3)] [] Q))) : Vw G jX4_joins 2 [some (.ref 68), some (.ref r1), some (.ref r2), some (.int v3)] [] h Q :=
  s_iload_n dX4_joins_2 rfl (s_bipush 8 dX4_joins_3 (by decide) (s_icmp_ge 39 dX4_joins_5 rfl (fun q2 => s_iconst 0 dX4_joins_39 (by decide) (s_zreturn dX4_joins_40 rfl (by decide) (K.1 q2))) (fun q2 => s_aload_n dX4_joins_8 rfl (s_iload_n dX4_joins_9 rfl (s_callV (As := [.int v3]) dX4_joins_10 rfl lvX4_18 ⟨Nat.le_of_ble_eq_true rfl, Nat.le_of_ble_eq_true rfl⟩ (hi.sh rfl rfl) ⟨_, _, by decide, rfl⟩ rfl (Nat.le_of_ble_eq_true rfl) ((K.2 q2)))))))
theorem bX4_joins_13 {G : GX} {h : mH} {Q : mO → mH → Prop} {r1 : Nat} {r2 : Nat} {v3 : Int32} (hi : Iv h) (k1 : kd r1 = (2, 11)) (k2 : kd r2 = (2, 11)) (K : WM G jX4_agree [.ref 68, .ref r1, .ref r2] h (Aft G jX4_joins 16 [some (.ref 68), some (.ref r1), some (.ref r2), some (.int v3)] [] Q)) : Vw G jX4_joins 13 [some (.ref 68), some (.ref r1), some (.ref r2), some (.int v3)] [] h Q :=
  s_aload_n dX4_joins_13 rfl (s_aload_n dX4_joins_14 rfl (s_aload_n dX4_joins_15 rfl (s_callV (As := [.ref r1, .ref r2]) dX4_joins_16 rfl lvX4_22 ⟨Nat.le_of_ble_eq_true rfl, Nat.le_of_ble_eq_true rfl⟩ (hi.sh rfl rfl) ⟨_, _, by decide, rfl⟩ rfl (Nat.le_of_ble_eq_true rfl) (K))))
theorem bX4_joins_19 {G : GX} {h : mH} {Q : mO → mH → Prop} {r1 : Nat} {r2 : Nat} {v3 : Int32} {vs0 : Int32} (hi : Iv h) (k1 : kd r1 = (2, 11)) (k2 : kd r2 = (2, 11)) (K : (vs0 = 0 → Vw G jX4_joins 33 [some (.ref 68), some (.ref r1), some (.ref r2), some (.int v3)] [] h Q) ∧ (¬ vs0 = 0 → WM G jX4_meet [.ref 68, .ref r1, .ref r2] h (Aft G jX4_joins 25 [some (.ref 68), some (.ref r1), some (.ref r2), some (.int v3)] [] Q))) : Vw G jX4_joins 19 [some (.ref 68), some (.ref r1), some (.ref r2), some (.int v3)] [.int vs0] h Q :=
  s_if_eq 33 dX4_joins_19 rfl (fun q0 => (K.1 q0)) (fun q0 => s_aload_n dX4_joins_22 rfl (s_aload_n dX4_joins_23 rfl (s_aload_n dX4_joins_24 rfl (s_callV (As := [.ref r1, .ref r2]) dX4_joins_25 rfl lvX4_26 ⟨Nat.le_of_ble_eq_true rfl, Nat.le_of_ble_eq_true rfl⟩ (hi.sh rfl rfl) ⟨_, _, by decide, rfl⟩ rfl (Nat.le_of_ble_eq_true rfl) ((K.2 q0))))))
theorem bX4_joins_28 {G : GX} {h : mH} {Q : mO → mH → Prop} {r1 : Nat} {r2 : Nat} {v3 : Int32} {vs0 : Int32} (hi : Iv h) (k1 : kd r1 = (2, 11)) (k2 : kd r2 = (2, 11)) (K : (vs0 = 0 → Vw G jX4_joins 33 [some (.ref 68), some (.ref r1), some (.ref r2), some (.int v3)] [] h Q) ∧ (¬ vs0 = 0 → Q (.inl (some (.int 1))) h)) : Vw G jX4_joins 28 [some (.ref 68), some (.ref r1), some (.ref r2), some (.int v3)] [.int vs0] h Q :=
  s_if_eq 33 dX4_joins_28 rfl (fun q0 => (K.1 q0)) (fun q0 => s_iconst 1 dX4_joins_31 (by decide) (s_zreturn dX4_joins_32 rfl (by decide) (K.2 q0)))
theorem bX4_joins_33 {G : GX} {h : mH} {Q : mO → mH → Prop} {r1 : Nat} {r2 : Nat} {v3 : Int32} (hi : Iv h) (k1 : kd r1 = (2, 11)) (k2 : kd r2 = (2, 11)) (K : Vw G jX4_joins 2 [some (.ref 68), some (.ref r1), some (.ref r2), some (.int (v3 + 1))] [] h Q) : Vw G jX4_joins 33 [some (.ref 68), some (.ref r1), some (.ref r2), some (.int v3)] [] h Q :=
  s_iinc 1 dX4_joins_33 rfl (by decide) (Nat.le_of_ble_eq_true rfl) rfl (s_goto 2 dX4_joins_36 rfl (K))
theorem eX4_joins {G : GX} {h : mH} {Q : mO → mH → Prop} {r1 : Nat} {r2 : Nat} (hi : Iv h) (k1 : kd r1 = (2, 11)) (k2 : kd r2 = (2, 11)) (K : Vw G jX4_joins 2 [some (.ref 68), some (.ref r1), some (.ref r2), some (.int 0)] [] h Q) : WM G jX4_joins [.ref 68, .ref r1, .ref r2] h Q :=
  WM.body (ls := [some (.ref 68), some (.ref r1), some (.ref r2), none]) rfl (by decide +kernel) rfl (Nat.le_of_ble_eq_true rfl) rfl ((bX4_joins_0 hi k1 k2 K))
