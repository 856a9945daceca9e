theorem dX11_penNow_0 : decode cX11_penNow 0 = .ok (.aload_n 0, 1) := by decide +kernel
theorem dX11_penNow_1 : decode cX11_penNow 1 = .ok (.aload_n 0, 1) := by decide +kernel
theorem dX11_penNow_2 : decode cX11_penNow 2 = .ok (.getfield 19, 3) := by decide +kernel
theorem dX11_penNow_5 : decode cX11_penNow 5 = .ok (.iconst 0, 1) := by decide +kernel
theorem dX11_penNow_6 : decode cX11_penNow 6 = .ok (.iload_n 1, 1) := by decide +kernel
theorem dX11_penNow_7 : decode cX11_penNow 7 = .ok (.iload_n 2, 1) := by decide +kernel
theorem dX11_penNow_8 : decode cX11_penNow 8 = .ok (.invokevirtual 256, 3) := by decide +kernel
theorem dX11_penNow_11 : decode cX11_penNow 11 = .ok (.istore_n 3, 1) := by decide +kernel
theorem dX11_penNow_12 : decode cX11_penNow 12 = .ok (.iconst 0, 1) := by decide +kernel
theorem dX11_penNow_13 : decode cX11_penNow 13 = .ok (.istore 4, 2) := by decide +kernel
theorem dX11_penNow_15 : decode cX11_penNow 15 = .ok (.iload 4, 2) := by decide +kernel
theorem dX11_penNow_17 : decode cX11_penNow 17 = .ok (.aload_n 0, 1) := by decide +kernel
theorem dX11_penNow_18 : decode cX11_penNow 18 = .ok (.getfield 219, 3) := by decide +kernel
theorem dX11_penNow_21 : decode cX11_penNow 21 = .ok (.if_icmp .ge 42, 3) := by decide +kernel
theorem dX11_penNow_24 : decode cX11_penNow 24 = .ok (.iload_n 3, 1) := by decide +kernel
theorem dX11_penNow_25 : decode cX11_penNow 25 = .ok (.aload_n 0, 1) := by decide +kernel
theorem dX11_penNow_26 : decode cX11_penNow 26 = .ok (.getfield 22, 3) := by decide +kernel
theorem dX11_penNow_29 : decode cX11_penNow 29 = .ok (.iconst 3, 1) := by decide +kernel
theorem dX11_penNow_30 : decode cX11_penNow 30 = .ok (.iload 4, 2) := by decide +kernel
theorem dX11_penNow_32 : decode cX11_penNow 32 = .ok (.imul, 1) := by decide +kernel
theorem dX11_penNow_33 : decode cX11_penNow 33 = .ok (.iaload, 1) := by decide +kernel
theorem dX11_penNow_34 : decode cX11_penNow 34 = .ok (.iload_n 1, 1) := by decide +kernel
theorem dX11_penNow_35 : decode cX11_penNow 35 = .ok (.if_icmp .gt 19, 3) := by decide +kernel
theorem dX11_penNow_38 : decode cX11_penNow 38 = .ok (.aload_n 0, 1) := by decide +kernel
theorem dX11_penNow_39 : decode cX11_penNow 39 = .ok (.getfield 22, 3) := by decide +kernel
theorem dX11_penNow_42 : decode cX11_penNow 42 = .ok (.iconst 3, 1) := by decide +kernel
theorem dX11_penNow_43 : decode cX11_penNow 43 = .ok (.iload 4, 2) := by decide +kernel
theorem dX11_penNow_45 : decode cX11_penNow 45 = .ok (.imul, 1) := by decide +kernel
theorem dX11_penNow_46 : decode cX11_penNow 46 = .ok (.iconst 1, 1) := by decide +kernel
theorem dX11_penNow_47 : decode cX11_penNow 47 = .ok (.iadd, 1) := by decide +kernel
theorem dX11_penNow_48 : decode cX11_penNow 48 = .ok (.iload_n 2, 1) := by decide +kernel
theorem dX11_penNow_49 : decode cX11_penNow 49 = .ok (.iadd, 1) := by decide +kernel
theorem dX11_penNow_50 : decode cX11_penNow 50 = .ok (.iaload, 1) := by decide +kernel
theorem dX11_penNow_51 : decode cX11_penNow 51 = .ok (.goto 4, 3) := by decide +kernel
theorem dX11_penNow_54 : decode cX11_penNow 54 = .ok (.iconst 0, 1) := by decide +kernel
theorem dX11_penNow_55 : decode cX11_penNow 55 = .ok (.iadd, 1) := by decide +kernel
theorem dX11_penNow_56 : decode cX11_penNow 56 = .ok (.istore_n 3, 1) := by decide +kernel
theorem dX11_penNow_57 : decode cX11_penNow 57 = .ok (.iinc 4 1, 3) := by decide +kernel
theorem dX11_penNow_60 : decode cX11_penNow 60 = .ok (.goto (-45), 3) := by decide +kernel
theorem dX11_penNow_63 : decode cX11_penNow 63 = .ok (.iload_n 3, 1) := by decide +kernel
theorem dX11_penNow_64 : decode cX11_penNow 64 = .ok (.ireturn, 1) := by decide +kernel
theorem bX11_penNow_0 {G : GX} {h : mH} {Q : mO → mH → Prop} {v1 : Int32} {v2 : Int32} (hi : Iv h) (K : WM G jX11_penOf [.ref 83, .ref 87, .int 0, .int v1, .int v2] h (Aft G jX11_penNow 8 [some (.ref 83), some (.int v1), some (.int v2), none, none] [] Q)) : Vw G jX11_penNow 0 [some (.ref 83), some (.int v1), some (.int v2), none, none] [] h Q :=
  s_aload_n dX11_penNow_0 rfl (s_aload_n dX11_penNow_1 rfl (s_getR (v := .ref 87) dX11_penNow_2 flX11_19 rfl (hi.sh rfl rfl) (hi.rf (o := 83) (k := 6) (d := 4) rfl rfl) (s_iconst 0 dX11_penNow_5 (by decide) (s_iload_n dX11_penNow_6 rfl (s_iload_n dX11_penNow_7 rfl (s_callV (As := [.ref 87, .int 0, .int v1, .int v2]) dX11_penNow_8 rfl lvX11_256 ⟨Nat.le_of_ble_eq_true rfl, Nat.le_of_ble_eq_true rfl⟩ (hi.sh rfl rfl) ⟨_, _, by decide, rfl⟩ rfl (Nat.le_of_ble_eq_true rfl) (K)))))))
theorem bX11_penNow_11 {G : GX} {h : mH} {Q : mO → mH → Prop} {v1 : Int32} {v2 : Int32} {vs0 : Int32} (hi : Iv h) (K : Vw G jX11_penNow 15 [some (.ref 83), some (.int v1), some (.int v2), some (.int vs0), some (.int 0)] [] h Q) : Vw G jX11_penNow 11 [some (.ref 83), some (.int v1), some (.int v2), none, none] [.int vs0] h Q :=
  s_istore_n dX11_penNow_11 (Nat.le_of_ble_eq_true rfl) rfl (s_iconst 0 dX11_penNow_12 (by decide) (s_istore dX11_penNow_13 (Nat.le_of_ble_eq_true rfl) rfl (K)))
theorem bX11_penNow_15 {G : GX} {h : mH} {Q : mO → mH → Prop} {v1 : Int32} {v2 : Int32} {v3 : Int32} {v4 : Int32} (hi : Iv h) (K : ((gI h 83 2) ≤ v4 → Q (.inl (some (.int v3))) h) ∧ (¬ (gI h 83 2) ≤ v4 → (vp_in (3 * v4) 12 ∧ ((v1 < (gI h 88 (Int32.toNatClampNeg (3 * v4))) → Vw G jX11_penNow 15 [some (.ref 83), some (.int v1), some (.int v2), some (.int (v3 + 0)), some (.int (v4 + 1))] [] h Q) ∧ (¬ v1 < (gI h 88 (Int32.toNatClampNeg (3 * v4))) → (vp_in (((3 * v4) + 1) + v2) 12 ∧ Vw G jX11_penNow 15 [some (.ref 83), some (.int v1), some (.int v2), some (.int (v3 + (gI h 88 (Int32.toNatClampNeg (((3 * v4) + 1) + v2))))), some (.int (v4 + 1))] [] h Q)))))) : Vw G jX11_penNow 15 [some (.ref 83), some (.int v1), some (.int v2), some (.int v3), some (.int v4)] [] h Q :=
  s_iload dX11_penNow_15 rfl (s_aload_n dX11_penNow_17 rfl (s_getI dX11_penNow_18 flX11_219 (Or.inl rfl) (hi.sh rfl rfl) (s_icmp_ge 63 dX11_penNow_21 rfl (fun q3 => s_iload_n dX11_penNow_63 rfl (s_ireturn dX11_penNow_64 rfl (K.1 q3))) (fun q3 => s_iload_n dX11_penNow_24 rfl (s_aload_n dX11_penNow_25 rfl (s_getR (v := .ref 88) dX11_penNow_26 flX11_22 rfl (hi.sh rfl rfl) (hi.rf (o := 83) (k := 7) (d := 5) rfl rfl) (s_iconst 3 dX11_penNow_29 (by decide) (s_iload dX11_penNow_30 rfl (s_imul dX11_penNow_32 (s_iaload dX11_penNow_33 (hi.sh rfl rfl) (K.2 q3).1 (s_iload_n dX11_penNow_34 rfl (s_icmp_gt 54 dX11_penNow_35 rfl (fun q12 => s_iconst 0 dX11_penNow_54 (by decide) (s_iadd dX11_penNow_55 (s_istore_n dX11_penNow_56 (Nat.le_of_ble_eq_true rfl) rfl (s_iinc 1 dX11_penNow_57 rfl (by decide) (Nat.le_of_ble_eq_true rfl) rfl (s_goto 15 dX11_penNow_60 rfl (((K.2 q3).2.1 q12))))))) (fun q12 => s_aload_n dX11_penNow_38 rfl (s_getR (v := .ref 88) dX11_penNow_39 flX11_22 rfl (hi.sh rfl rfl) (hi.rf (o := 83) (k := 7) (d := 5) rfl rfl) (s_iconst 3 dX11_penNow_42 (by decide) (s_iload dX11_penNow_43 rfl (s_imul dX11_penNow_45 (s_iconst 1 dX11_penNow_46 (by decide) (s_iadd dX11_penNow_47 (s_iload_n dX11_penNow_48 rfl (s_iadd dX11_penNow_49 (s_iaload dX11_penNow_50 (hi.sh rfl rfl) ((K.2 q3).2.2 q12).1 (s_goto 55 dX11_penNow_51 rfl (s_iadd dX11_penNow_55 (s_istore_n dX11_penNow_56 (Nat.le_of_ble_eq_true rfl) rfl (s_iinc 1 dX11_penNow_57 rfl (by decide) (Nat.le_of_ble_eq_true rfl) rfl (s_goto 15 dX11_penNow_60 rfl (((K.2 q3).2.2 q12).2))))))))))))))))))))))))))))
theorem eX11_penNow {G : GX} {h : mH} {Q : mO → mH → Prop} {v1 : Int32} {v2 : Int32} (hi : Iv h) (K : WM G jX11_penOf [.ref 83, .ref 87, .int 0, .int v1, .int v2] h (Aft G jX11_penNow 8 [some (.ref 83), some (.int v1), some (.int v2), none, none] [] Q)) : WM G jX11_penNow [.ref 83, .int v1, .int v2] h Q :=
  WM.body (ls := [some (.ref 83), some (.int v1), some (.int v2), none, none]) rfl (by decide +kernel) rfl (Nat.le_of_ble_eq_true rfl) rfl ((bX11_penNow_0 hi  K))
theorem dX11_swing_0 : decode cX11_swing 0 = .ok (.aload_n 0, 1) := by decide +kernel
theorem dX11_swing_1 : decode cX11_swing 1 = .ok (.iconst 0, 1) := by decide +kernel
theorem dX11_swing_2 : decode cX11_swing 2 = .ok (.putfield 113, 3) := by decide +kernel
theorem dX11_swing_5 : decode cX11_swing 5 = .ok (.aload_n 0, 1) := by decide +kernel
theorem dX11_swing_6 : decode cX11_swing 6 = .ok (.iload_n 1, 1) := by decide +kernel
theorem dX11_swing_7 : decode cX11_swing 7 = .ok (.invokevirtual 242, 3) := by decide +kernel
theorem dX11_swing_10 : decode cX11_swing 10 = .ok (.ifCond .eq 26, 3) := by decide +kernel
theorem dX11_swing_13 : decode cX11_swing 13 = .ok (.aload_n 0, 1) := by decide +kernel
theorem dX11_swing_14 : decode cX11_swing 14 = .ok (.iload_n 2, 1) := by decide +kernel
theorem dX11_swing_15 : decode cX11_swing 15 = .ok (.iconst 2, 1) := by decide +kernel
theorem dX11_swing_16 : decode cX11_swing 16 = .ok (.invokevirtual 259, 3) := by decide +kernel
theorem dX11_swing_19 : decode cX11_swing 19 = .ok (.ifCond .eq 17, 3) := by decide +kernel
theorem dX11_swing_22 : decode cX11_swing 22 = .ok (.aload_n 0, 1) := by decide +kernel
theorem dX11_swing_23 : decode cX11_swing 23 = .ok (.aload_n 0, 1) := by decide +kernel
theorem dX11_swing_24 : decode cX11_swing 24 = .ok (.getfield 19, 3) := by decide +kernel
theorem dX11_swing_27 : decode cX11_swing 27 = .ok (.iconst 0, 1) := by decide +kernel
theorem dX11_swing_28 : decode cX11_swing 28 = .ok (.iload_n 1, 1) := by decide +kernel
theorem dX11_swing_29 : decode cX11_swing 29 = .ok (.iload_n 2, 1) := by decide +kernel
theorem dX11_swing_30 : decode cX11_swing 30 = .ok (.invokevirtual 252, 3) := by decide +kernel
theorem dX11_swing_33 : decode cX11_swing 33 = .ok (.goto 4, 3) := by decide +kernel
theorem dX11_swing_36 : decode cX11_swing 36 = .ok (.iconst 0, 1) := by decide +kernel
theorem dX11_swing_37 : decode cX11_swing 37 = .ok (.ireturn, 1) := by decide +kernel
theorem bX11_swing_0 {G : GX} {h : mH} {Q : mO → mH → Prop} {v1 : Int32} {v2 : Int32} (hi : Iv h) (K : WM G jX11_isPendulum [.ref 83, .int v1] (pI h 83 0 0) (Aft G jX11_swing 7 [some (.ref 83), some (.int v1), some (.int v2)] [] Q)) : Vw G jX11_swing 0 [some (.ref 83), some (.int v1), some (.int v2)] [] h Q :=
  s_aload_n dX11_swing_0 rfl (s_iconst 0 dX11_swing_1 (by decide) (s_putI dX11_swing_2 flX11_113 ff10_0 rfl (hi.sh rfl rfl) (s_aload_n dX11_swing_5 rfl (s_iload_n dX11_swing_6 rfl (s_callV (As := [.int v1]) dX11_swing_7 rfl lvX11_242 ⟨Nat.le_of_ble_eq_true rfl, Nat.le_of_ble_eq_true rfl⟩ (hi.sh rfl rfl) ⟨_, _, by decide, rfl⟩ rfl (Nat.le_of_ble_eq_true rfl) (K))))))
theorem bX11_swing_10 {G : GX} {h : mH} {Q : mO → mH → Prop} {v1 : Int32} {v2 : Int32} {vs0 : Int32} (hi : Iv h) (K : (vs0 = 0 → Q (.inl (some (.int 0))) h) ∧ (¬ vs0 = 0 → WM G jX11_isTick [.ref 83, .int v2, .int 2] h (Aft G jX11_swing 16 [some (.ref 83), some (.int v1), some (.int v2)] [] Q))) : Vw G jX11_swing 10 [some (.ref 83), some (.int v1), some (.int v2)] [.int vs0] h Q :=
  s_if_eq 36 dX11_swing_10 rfl (fun q0 => s_iconst 0 dX11_swing_36 (by decide) (s_ireturn dX11_swing_37 rfl (K.1 q0))) (fun q0 => s_aload_n dX11_swing_13 rfl (s_iload_n dX11_swing_14 rfl (s_iconst 2 dX11_swing_15 (by decide) (s_callV (As := [.int v2, .int 2]) dX11_swing_16 rfl lvX11_259 ⟨Nat.le_of_ble_eq_true rfl, Nat.le_of_ble_eq_true rfl⟩ (hi.sh rfl rfl) ⟨_, _, by decide, rfl⟩ rfl (Nat.le_of_ble_eq_true rfl) ((K.2 q0))))))
theorem bX11_swing_19 {G : GX} {h : mH} {Q : mO → mH → Prop} {v1 : Int32} {v2 : Int32} {vs0 : Int32} (hi : Iv h) (K : (vs0 = 0 → Q (.inl (some (.int 0))) h) ∧ (¬ vs0 = 0 → WM G jX11_at [.ref 83, .ref 87, .int 0, .int v1, .int v2] h (Aft G jX11_swing 30 [none, none, none] [] Q))) : Vw G jX11_swing 19 [some (.ref 83), some (.int v1), some (.int v2)] [.int vs0] h Q :=
  s_if_eq 36 dX11_swing_19 rfl (fun q0 => s_iconst 0 dX11_swing_36 (by decide) (s_ireturn dX11_swing_37 rfl (K.1 q0))) (fun q0 => s_aload_n dX11_swing_22 rfl (s_aload_n dX11_swing_23 rfl (s_getR (v := .ref 87) dX11_swing_24 flX11_19 rfl (hi.sh rfl rfl) (hi.rf (o := 83) (k := 6) (d := 4) rfl rfl) (s_iconst 0 dX11_swing_27 (by decide) (s_iload_n dX11_swing_28 rfl (s_iload_n dX11_swing_29 rfl (Vw.mask [false, false, false] (s_callV (As := [.ref 87, .int 0, .int v1, .int v2]) dX11_swing_30 rfl lvX11_252 ⟨Nat.le_of_ble_eq_true rfl, Nat.le_of_ble_eq_true rfl⟩ (hi.sh rfl rfl) ⟨_, _, by decide, rfl⟩ rfl (Nat.le_of_ble_eq_true rfl) ((K.2 q0))))))))))
theorem bX11_swing_33 {G : GX} {h : mH} {Q : mO → mH → Prop} {vs0 : Int32} (hi : Iv h) (K : Q (.inl (some (.int vs0))) h) : Vw G jX11_swing 33 [none, none, none] [.int vs0] h Q :=
  s_goto 37 dX11_swing_33 rfl (s_ireturn dX11_swing_37 rfl K)
theorem eX11_swing {G : GX} {h : mH} {Q : mO → mH → Prop} {v1 : Int32} {v2 : Int32} (hi : Iv h) (K : WM G jX11_isPendulum [.ref 83, .int v1] (pI h 83 0 0) (Aft G jX11_swing 7 [some (.ref 83), some (.int v1), some (.int v2)] [] Q)) : WM G jX11_swing [.ref 83, .int v1, .int v2] h Q :=
  WM.body (ls := [some (.ref 83), some (.int v1), some (.int v2)]) rfl (by decide +kernel) rfl (Nat.le_of_ble_eq_true rfl) rfl ((bX11_swing_0 hi  K))
theorem dX11_pen_0 : decode cX11_pen 0 = .ok (.aload_n 0, 1) := by decide +kernel
theorem dX11_pen_1 : decode cX11_pen 1 = .ok (.iconst 0, 1) := by decide +kernel
theorem dX11_pen_2 : decode cX11_pen 2 = .ok (.putfield 113, 3) := by decide +kernel
theorem dX11_pen_5 : decode cX11_pen 5 = .ok (.aload_n 0, 1) := by decide +kernel
theorem dX11_pen_6 : decode cX11_pen 6 = .ok (.iload_n 2, 1) := by decide +kernel
theorem dX11_pen_7 : decode cX11_pen 7 = .ok (.ifCond .eq 8, 3) := by decide +kernel
theorem dX11_pen_10 : decode cX11_pen 10 = .ok (.iload_n 2, 1) := by decide +kernel
theorem dX11_pen_11 : decode cX11_pen 11 = .ok (.iconst 1, 1) := by decide +kernel
theorem dX11_pen_12 : decode cX11_pen 12 = .ok (.if_icmp .ne 7, 3) := by decide +kernel
theorem dX11_pen_15 : decode cX11_pen 15 = .ok (.iconst 1, 1) := by decide +kernel
theorem dX11_pen_16 : decode cX11_pen 16 = .ok (.goto 4, 3) := by decide +kernel
theorem dX11_pen_19 : decode cX11_pen 19 = .ok (.iconst 0, 1) := by decide +kernel
theorem dX11_pen_20 : decode cX11_pen 20 = .ok (.iconst 1, 1) := by decide +kernel
theorem dX11_pen_21 : decode cX11_pen 21 = .ok (.invokevirtual 209, 3) := by decide +kernel
theorem dX11_pen_24 : decode cX11_pen 24 = .ok (.ifCond .eq 21, 3) := by decide +kernel
theorem dX11_pen_27 : decode cX11_pen 27 = .ok (.aload_n 0, 1) := by decide +kernel
theorem dX11_pen_28 : decode cX11_pen 28 = .ok (.iload_n 1, 1) := by decide +kernel
theorem dX11_pen_29 : decode cX11_pen 29 = .ok (.iconst 2, 1) := by decide +kernel
theorem dX11_pen_30 : decode cX11_pen 30 = .ok (.invokevirtual 259, 3) := by decide +kernel
theorem dX11_pen_33 : decode cX11_pen 33 = .ok (.ifCond .eq 12, 3) := by decide +kernel
theorem dX11_pen_36 : decode cX11_pen 36 = .ok (.aload_n 0, 1) := by decide +kernel
theorem dX11_pen_37 : decode cX11_pen 37 = .ok (.iload_n 1, 1) := by decide +kernel
theorem dX11_pen_38 : decode cX11_pen 38 = .ok (.iload_n 2, 1) := by decide +kernel
theorem dX11_pen_39 : decode cX11_pen 39 = .ok (.invokevirtual 263, 3) := by decide +kernel
theorem dX11_pen_42 : decode cX11_pen 42 = .ok (.goto 4, 3) := by decide +kernel
theorem dX11_pen_45 : decode cX11_pen 45 = .ok (.iconst 0, 1) := by decide +kernel
theorem dX11_pen_46 : decode cX11_pen 46 = .ok (.ireturn, 1) := by decide +kernel
theorem bX11_pen_0 {G : GX} {h : mH} {Q : mO → mH → Prop} {v1 : Int32} {v2 : Int32} (hi : Iv h) (K : (v2 = 0 → WM G jX11_right [.ref 83, .int 1, .int 1] (pI h 83 0 0) (Aft G jX11_pen 21 [some (.ref 83), some (.int v1), some (.int v2)] [] Q)) ∧ (¬ v2 = 0 → ((¬ v2 = 1 → WM G jX11_right [.ref 83, .int 0, .int 1] (pI h 83 0 0) (Aft G jX11_pen 21 [some (.ref 83), some (.int v1), some (.int v2)] [] Q)) ∧ (v2 = 1 → WM G jX11_right [.ref 83, .int 1, .int 1] (pI h 83 0 0) (Aft G jX11_pen 21 [some (.ref 83), some (.int v1), some (.int v2)] [] Q))))) : Vw G jX11_pen 0 [some (.ref 83), some (.int v1), some (.int v2)] [] h Q :=
  s_aload_n dX11_pen_0 rfl (s_iconst 0 dX11_pen_1 (by decide) (s_putI dX11_pen_2 flX11_113 ff10_0 rfl (hi.sh rfl rfl) (s_aload_n dX11_pen_5 rfl (s_iload_n dX11_pen_6 rfl (s_if_eq 15 dX11_pen_7 rfl (fun q5 => s_iconst 1 dX11_pen_15 (by decide) (s_goto 20 dX11_pen_16 rfl (s_iconst 1 dX11_pen_20 (by decide) (s_callV (As := [.int 1, .int 1]) dX11_pen_21 rfl lvX11_209 ⟨Nat.le_of_ble_eq_true rfl, Nat.le_of_ble_eq_true rfl⟩ (hi.sh rfl rfl) ⟨_, _, by decide, rfl⟩ rfl (Nat.le_of_ble_eq_true rfl) ((K.1 q5)))))) (fun q5 => s_iload_n dX11_pen_10 rfl (s_iconst 1 dX11_pen_11 (by decide) (s_icmp_ne 19 dX11_pen_12 rfl (fun q8 => s_iconst 0 dX11_pen_19 (by decide) (s_iconst 1 dX11_pen_20 (by decide) (s_callV (As := [.int 0, .int 1]) dX11_pen_21 rfl lvX11_209 ⟨Nat.le_of_ble_eq_true rfl, Nat.le_of_ble_eq_true rfl⟩ (hi.sh rfl rfl) ⟨_, _, by decide, rfl⟩ rfl (Nat.le_of_ble_eq_true rfl) (((K.2 q5).1 q8))))) (fun q8 => s_iconst 1 dX11_pen_15 (by decide) (s_goto 20 dX11_pen_16 rfl (s_iconst 1 dX11_pen_20 (by decide) (s_callV (As := [.int 1, .int 1]) dX11_pen_21 rfl lvX11_209 ⟨Nat.le_of_ble_eq_true rfl, Nat.le_of_ble_eq_true rfl⟩ (hi.sh rfl rfl) ⟨_, _, by decide, rfl⟩ rfl (Nat.le_of_ble_eq_true rfl) (((K.2 q5).2 q8))))))))))))))
theorem bX11_pen_24 {G : GX} {h : mH} {Q : mO → mH → Prop} {v1 : Int32} {v2 : Int32} {vs0 : Int32} (hi : Iv h) (K : (vs0 = 0 → Q (.inl (some (.int 0))) h) ∧ (¬ vs0 = 0 → WM G jX11_isTick [.ref 83, .int v1, .int 2] h (Aft G jX11_pen 30 [some (.ref 83), some (.int v1), some (.int v2)] [] Q))) : Vw G jX11_pen 24 [some (.ref 83), some (.int v1), some (.int v2)] [.int vs0] h Q :=
  s_if_eq 45 dX11_pen_24 rfl (fun q0 => s_iconst 0 dX11_pen_45 (by decide) (s_ireturn dX11_pen_46 rfl (K.1 q0))) (fun q0 => s_aload_n dX11_pen_27 rfl (s_iload_n dX11_pen_28 rfl (s_iconst 2 dX11_pen_29 (by decide) (s_callV (As := [.int v1, .int 2]) dX11_pen_30 rfl lvX11_259 ⟨Nat.le_of_ble_eq_true rfl, Nat.le_of_ble_eq_true rfl⟩ (hi.sh rfl rfl) ⟨_, _, by decide, rfl⟩ rfl (Nat.le_of_ble_eq_true rfl) ((K.2 q0))))))
theorem bX11_pen_33 {G : GX} {h : mH} {Q : mO → mH → Prop} {v1 : Int32} {v2 : Int32} {vs0 : Int32} (hi : Iv h) (K : (vs0 = 0 → Q (.inl (some (.int 0))) h) ∧ (¬ vs0 = 0 → WM G jX11_penNow [.ref 83, .int v1, .int v2] h (Aft G jX11_pen 39 [none, none, none] [] Q))) : Vw G jX11_pen 33 [some (.ref 83), some (.int v1), some (.int v2)] [.int vs0] h Q :=
  s_if_eq 45 dX11_pen_33 rfl (fun q0 => s_iconst 0 dX11_pen_45 (by decide) (s_ireturn dX11_pen_46 rfl (K.1 q0))) (fun q0 => s_aload_n dX11_pen_36 rfl (s_iload_n dX11_pen_37 rfl (s_iload_n dX11_pen_38 rfl (Vw.mask [false, false, false] (s_callV (As := [.int v1, .int v2]) dX11_pen_39 rfl lvX11_263 ⟨Nat.le_of_ble_eq_true rfl, Nat.le_of_ble_eq_true rfl⟩ (hi.sh rfl rfl) ⟨_, _, by decide, rfl⟩ rfl (Nat.le_of_ble_eq_true rfl) ((K.2 q0)))))))
theorem bX11_pen_42 {G : GX} {h : mH} {Q : mO → mH → Prop} {vs0 : Int32} (hi : Iv h) (K : Q (.inl (some (.int vs0))) h) : Vw G jX11_pen 42 [none, none, none] [.int vs0] h Q :=
  s_goto 46 dX11_pen_42 rfl (s_ireturn dX11_pen_46 rfl K)
theorem eX11_pen {G : GX} {h : mH} {Q : mO → mH → Prop} {v1 : Int32} {v2 : Int32} (hi : Iv h) (K : (v2 = 0 → WM G jX11_right [.ref 83, .int 1, .int 1] (pI h 83 0 0) (Aft G jX11_pen 21 [some (.ref 83), some (.int v1), some (.int v2)] [] Q)) ∧ (¬ v2 = 0 → ((¬ v2 = 1 → WM G jX11_right [.ref 83, .int 0, .int 1] (pI h 83 0 0) (Aft G jX11_pen 21 [some (.ref 83), some (.int v1), some (.int v2)] [] Q)) ∧ (v2 = 1 → WM G jX11_right [.ref 83, .int 1, .int 1] (pI h 83 0 0) (Aft G jX11_pen 21 [some (.ref 83), some (.int v1), some (.int v2)] [] Q))))) : WM G jX11_pen [.ref 83, .int v1, .int v2] h Q :=
  WM.body (ls := [some (.ref 83), some (.int v1), some (.int v2)]) rfl (by decide +kernel) rfl (Nat.le_of_ble_eq_true rfl) rfl ((bX11_pen_0 hi  K))
theorem dX11_isSpan_0 : decode cX11_isSpan 0 = .ok (.aload_n 0, 1) := by decide +kernel
theorem dX11_isSpan_1 : decode cX11_isSpan 1 = .ok (.iload_n 1, 1) := by decide +kernel
theorem dX11_isSpan_2 : decode cX11_isSpan 2 = .ok (.ifCond .lt 28, 3) := by decide +kernel
theorem dX11_isSpan_5 : decode cX11_isSpan 5 = .ok (.iload_n 2, 1) := by decide +kernel
theorem dX11_isSpan_6 : decode cX11_isSpan 6 = .ok (.sipush 10000, 3) := by decide +kernel
theorem dX11_isSpan_9 : decode cX11_isSpan 9 = .ok (.if_icmp .ge 21, 3) := by decide +kernel
theorem dX11_isSpan_12 : decode cX11_isSpan 12 = .ok (.iload_n 1, 1) := by decide +kernel
theorem dX11_isSpan_13 : decode cX11_isSpan 13 = .ok (.iload_n 2, 1) := by decide +kernel
theorem dX11_isSpan_14 : decode cX11_isSpan 14 = .ok (.if_icmp .gt 16, 3) := by decide +kernel
theorem dX11_isSpan_17 : decode cX11_isSpan 17 = .ok (.iload_n 2, 1) := by decide +kernel
theorem dX11_isSpan_18 : decode cX11_isSpan 18 = .ok (.iload_n 1, 1) := by decide +kernel
theorem dX11_isSpan_19 : decode cX11_isSpan 19 = .ok (.isub, 1) := by decide +kernel
theorem dX11_isSpan_20 : decode cX11_isSpan 20 = .ok (.sipush 999, 3) := by decide +kernel
theorem dX11_isSpan_23 : decode cX11_isSpan 23 = .ok (.if_icmp .gt 7, 3) := by decide +kernel
theorem dX11_isSpan_26 : decode cX11_isSpan 26 = .ok (.iconst 1, 1) := by decide +kernel
theorem dX11_isSpan_27 : decode cX11_isSpan 27 = .ok (.goto 4, 3) := by decide +kernel
theorem dX11_isSpan_30 : decode cX11_isSpan 30 = .ok (.iconst 0, 1) := by decide +kernel
theorem dX11_isSpan_31 : decode cX11_isSpan 31 = .ok (.iload_n 3, 1) := by decide +kernel
theorem dX11_isSpan_32 : decode cX11_isSpan 32 = .ok (.invokevirtual 209, 3) := by decide +kernel
theorem dX11_isSpan_35 : decode cX11_isSpan 35 = .ok (.ireturn, 1) := by decide +kernel
theorem bX11_isSpan_0 {G : GX} {h : mH} {Q : mO → mH → Prop} {v1 : Int32} {v2 : Int32} {v3 : Int32} (hi : Iv h) (K : (v1 < 0 → WM G jX11_right [.ref 83, .int 0, .int v3] h (Aft G jX11_isSpan 32 [none, none, none, none] [] Q)) ∧ (¬ v1 < 0 → ((10000 ≤ v2 → WM G jX11_right [.ref 83, .int 0, .int v3] h (Aft G jX11_isSpan 32 [none, none, none, none] [] Q)) ∧ (¬ 10000 ≤ v2 → ((v2 < v1 → WM G jX11_right [.ref 83, .int 0, .int v3] h (Aft G jX11_isSpan 32 [none, none, none, none] [] Q)) ∧ (¬ v2 < v1 → ((999 < (v2 - v1) → WM G jX11_right [.ref 83, .int 0, .int v3] h (Aft G jX11_isSpan 32 [none, none, none, none] [] Q)) ∧ (¬ 999 < (v2 - v1) → WM G jX11_right [.ref 83, .int 1, .int v3] h (Aft G jX11_isSpan 32 [none, none, none, none] [] Q))))))))) : Vw G jX11_isSpan 0 [some (.ref 83), some (.int v1), some (.int v2), some (.int v3)] [] h Q :=
  s_aload_n dX11_isSpan_0 rfl (s_iload_n dX11_isSpan_1 rfl (s_if_lt 30 dX11_isSpan_2 rfl (fun q2 => s_iconst 0 dX11_isSpan_30 (by decide) (s_iload_n dX11_isSpan_31 rfl (Vw.mask [false, false, false, false] (s_callV (As := [.int 0, .int v3]) dX11_isSpan_32 rfl lvX11_209 ⟨Nat.le_of_ble_eq_true rfl, Nat.le_of_ble_eq_true rfl⟩ (hi.sh rfl rfl) ⟨_, _, by decide, rfl⟩ rfl (Nat.le_of_ble_eq_true rfl) ((K.1 q2)))))) (fun q2 => s_iload_n dX11_isSpan_5 rfl (s_sipush 10000 dX11_isSpan_6 (by decide) (s_icmp_ge 30 dX11_isSpan_9 rfl (fun q5 => s_iconst 0 dX11_isSpan_30 (by decide) (s_iload_n dX11_isSpan_31 rfl (Vw.mask [false, false, false, false] (s_callV (As := [.int 0, .int v3]) dX11_isSpan_32 rfl lvX11_209 ⟨Nat.le_of_ble_eq_true rfl, Nat.le_of_ble_eq_true rfl⟩ (hi.sh rfl rfl) ⟨_, _, by decide, rfl⟩ rfl (Nat.le_of_ble_eq_true rfl) (((K.2 q2).1 q5)))))) (fun q5 => s_iload_n dX11_isSpan_12 rfl (s_iload_n dX11_isSpan_13 rfl (s_icmp_gt 30 dX11_isSpan_14 rfl (fun q8 => s_iconst 0 dX11_isSpan_30 (by decide) (s_iload_n dX11_isSpan_31 rfl (Vw.mask [false, false, false, false] (s_callV (As := [.int 0, .int v3]) dX11_isSpan_32 rfl lvX11_209 ⟨Nat.le_of_ble_eq_true rfl, Nat.le_of_ble_eq_true rfl⟩ (hi.sh rfl rfl) ⟨_, _, by decide, rfl⟩ rfl (Nat.le_of_ble_eq_true rfl) ((((K.2 q2).2 q5).1 q8)))))) (fun q8 => s_iload_n dX11_isSpan_17 rfl (s_iload_n dX11_isSpan_18 rfl (s_isub dX11_isSpan_19 (s_sipush 999 dX11_isSpan_20 (by decide) (s_icmp_gt 30 dX11_isSpan_23 rfl (fun q13 => s_iconst 0 dX11_isSpan_30 (by decide) (s_iload_n dX11_isSpan_31 rfl (Vw.mask [false, false, false, false] (s_callV (As := [.int 0, .int v3]) dX11_isSpan_32 rfl lvX11_209 ⟨Nat.le_of_ble_eq_true rfl, Nat.le_of_ble_eq_true rfl⟩ (hi.sh rfl rfl) ⟨_, _, by decide, rfl⟩ rfl (Nat.le_of_ble_eq_true rfl) (((((K.2 q2).2 q5).2 q8).1 q13)))))) (fun q13 => s_iconst 1 dX11_isSpan_26 (by decide) (s_goto 31 dX11_isSpan_27 rfl (s_iload_n dX11_isSpan_31 rfl (Vw.mask [false, false, false, false] (s_callV (As := [.int 1, .int v3]) dX11_isSpan_32 rfl lvX11_209 ⟨Nat.le_of_ble_eq_true rfl, Nat.le_of_ble_eq_true rfl⟩ (hi.sh rfl rfl) ⟨_, _, by decide, rfl⟩ rfl (Nat.le_of_ble_eq_true rfl) (((((K.2 q2).2 q5).2 q8).2 q13))))))))))))))))))))
theorem bX11_isSpan_35 {G : GX} {h : mH} {Q : mO → mH → Prop} {vs0 : Int32} (hi : Iv h) (K : (vs0 = 0 ∨ vs0 = 1) ∧ Q (.inl (some (.int vs0))) h) : Vw G jX11_isSpan 35 [none, none, none, none] [.int vs0] h Q :=
  s_zreturn dX11_isSpan_35 rfl K.1 K.2
theorem eX11_isSpan {G : GX} {h : mH} {Q : mO → mH → Prop} {v1 : Int32} {v2 : Int32} {v3 : Int32} (hi : Iv h) (K : (v1 < 0 → WM G jX11_right [.ref 83, .int 0, .int v3] h (Aft G jX11_isSpan 32 [none, none, none, none] [] Q)) ∧ (¬ v1 < 0 → ((10000 ≤ v2 → WM G jX11_right [.ref 83, .int 0, .int v3] h (Aft G jX11_isSpan 32 [none, none, none, none] [] Q)) ∧ (¬ 10000 ≤ v2 → ((v2 < v1 → WM G jX11_right [.ref 83, .int 0, .int v3] h (Aft G jX11_isSpan 32 [none, none, none, none] [] Q)) ∧ (¬ v2 < v1 → ((999 < (v2 - v1) → WM G jX11_right [.ref 83, .int 0, .int v3] h (Aft G jX11_isSpan 32 [none, none, none, none] [] Q)) ∧ (¬ 999 < (v2 - v1) → WM G jX11_right [.ref 83, .int 1, .int v3] h (Aft G jX11_isSpan 32 [none, none, none, none] [] Q))))))))) : WM G jX11_isSpan [.ref 83, .int v1, .int v2, .int v3] h Q :=
  WM.body (ls := [some (.ref 83), some (.int v1), some (.int v2), some (.int v3)]) rfl (by decide +kernel) rfl (Nat.le_of_ble_eq_true rfl) rfl ((bX11_isSpan_0 hi  K))
theorem dX11_clears_0 : decode cX11_clears 0 = .ok (.iconst 0, 1) := by decide +kernel
theorem dX11_clears_1 : decode cX11_clears 1 = .ok (.istore_n 1, 1) := by decide +kernel
theorem dX11_clears_2 : decode cX11_clears 2 = .ok (.iload_n 1, 1) := by decide +kernel
theorem dX11_clears_3 : decode cX11_clears 3 = .ok (.sipush 729, 3) := by decide +kernel
theorem dX11_clears_6 : decode cX11_clears 6 = .ok (.if_icmp .ge 16, 3) := by decide +kernel
theorem dX11_clears_9 : decode cX11_clears 9 = .ok (.aload_n 0, 1) := by decide +kernel
theorem dX11_clears_10 : decode cX11_clears 10 = .ok (.getfield 50, 3) := by decide +kernel
theorem dX11_clears_13 : decode cX11_clears 13 = .ok (.iload_n 1, 1) := by decide +kernel
theorem dX11_clears_14 : decode cX11_clears 14 = .ok (.iconst 0, 1) := by decide +kernel
theorem dX11_clears_15 : decode cX11_clears 15 = .ok (.iastore, 1) := by decide +kernel
theorem dX11_clears_16 : decode cX11_clears 16 = .ok (.iinc 1 1, 3) := by decide +kernel
theorem dX11_clears_19 : decode cX11_clears 19 = .ok (.goto (-17), 3) := by decide +kernel
theorem dX11_clears_22 : decode cX11_clears 22 = .ok (.return_, 1) := by decide +kernel
theorem bX11_clears_0 {G : GX} {h : mH} {Q : mO → mH → Prop} (hi : Iv h) (K : Vw G jX11_clears 2 [some (.ref 83), some (.int 0)] [] h Q) : Vw G jX11_clears 0 [some (.ref 83), none] [] h Q :=
  s_iconst 0 dX11_clears_0 (by decide) (s_istore_n dX11_clears_1 (Nat.le_of_ble_eq_true rfl) rfl (K))
theorem bX11_clears_2 {G : GX} {h : mH} {Q : mO → mH → Prop} {v1 : Int32} (hi : Iv h) (K : (729 ≤ v1 → Q (.inl none) h) ∧ (¬ 729 ≤ v1 → (vp_in v1 729 ∧ Vw G jX11_clears 2 [some (.ref 83), some (.int (v1 + 1))] [] (pI h 96 (Int32.toNatClampNeg v1) 0) Q))) : Vw G jX11_clears 2 [some (.ref 83), some (.int v1)] [] h Q :=
  s_iload_n dX11_clears_2 rfl (s_sipush 729 dX11_clears_3 (by decide) (s_icmp_ge 22 dX11_clears_6 rfl (fun q2 => s_return dX11_clears_22 rfl (K.1 q2)) (fun q2 => s_aload_n dX11_clears_9 rfl (s_getR (v := .ref 96) dX11_clears_10 flX11_50 rfl (hi.sh rfl rfl) (hi.rf (o := 83) (k := 29) (d := 13) rfl rfl) (s_iload_n dX11_clears_13 rfl (s_iconst 0 dX11_clears_14 (by decide) (s_iastore dX11_clears_15 (hi.sh rfl rfl) (K.2 q2).1 (s_iinc 1 dX11_clears_16 rfl (by decide) (Nat.le_of_ble_eq_true rfl) rfl (s_goto 2 dX11_clears_19 rfl ((K.2 q2).2))))))))))
theorem eX11_clears {G : GX} {h : mH} {Q : mO → mH → Prop} (hi : Iv h) (K : Vw G jX11_clears 2 [some (.ref 83), some (.int 0)] [] h Q) : WM G jX11_clears [.ref 83] h Q :=
  WM.body (ls := [some (.ref 83), none]) rfl (by decide +kernel) rfl (Nat.le_of_ble_eq_true rfl) rfl ((bX11_clears_0 hi  K))
theorem dX11_drawn_0 : decode cX11_drawn 0 = .ok (.aload_n 0, 1) := by decide +kernel
theorem dX11_drawn_1 : decode cX11_drawn 1 = .ok (.iconst 0, 1) := by decide +kernel
theorem dX11_drawn_2 : decode cX11_drawn 2 = .ok (.putfield 113, 3) := by decide +kernel
theorem dX11_drawn_5 : decode cX11_drawn 5 = .ok (.aload_n 0, 1) := by decide +kernel
theorem dX11_drawn_6 : decode cX11_drawn 6 = .ok (.iload_n 1, 1) := by decide +kernel
theorem dX11_drawn_7 : decode cX11_drawn 7 = .ok (.iload_n 2, 1) := by decide +kernel
theorem dX11_drawn_8 : decode cX11_drawn 8 = .ok (.iconst 1, 1) := by decide +kernel
theorem dX11_drawn_9 : decode cX11_drawn 9 = .ok (.invokevirtual 266, 3) := by decide +kernel
theorem dX11_drawn_12 : decode cX11_drawn 12 = .ok (.ifCond .ne 5, 3) := by decide +kernel
theorem dX11_drawn_15 : decode cX11_drawn 15 = .ok (.iconst 0, 1) := by decide +kernel
theorem dX11_drawn_16 : decode cX11_drawn 16 = .ok (.ireturn, 1) := by decide +kernel
theorem dX11_drawn_17 : decode cX11_drawn 17 = .ok (.aload_n 0, 1) := by decide +kernel
theorem dX11_drawn_18 : decode cX11_drawn 18 = .ok (.invokevirtual 269, 3) := by decide +kernel
theorem dX11_drawn_21 : decode cX11_drawn 21 = .ok (.iconst 0, 1) := by decide +kernel
theorem dX11_drawn_22 : decode cX11_drawn 22 = .ok (.istore_n 3, 1) := by decide +kernel
theorem dX11_drawn_23 : decode cX11_drawn 23 = .ok (.iload_n 1, 1) := by decide +kernel
theorem dX11_drawn_24 : decode cX11_drawn 24 = .ok (.istore 4, 2) := by decide +kernel
theorem dX11_drawn_26 : decode cX11_drawn 26 = .ok (.iload 4, 2) := by decide +kernel
theorem dX11_drawn_28 : decode cX11_drawn 28 = .ok (.iload_n 2, 1) := by decide +kernel
theorem dX11_drawn_29 : decode cX11_drawn 29 = .ok (.if_icmp .gt 54, 3) := by decide +kernel
theorem dX11_drawn_32 : decode cX11_drawn 32 = .ok (.aload_n 0, 1) := by decide +kernel
theorem dX11_drawn_33 : decode cX11_drawn 33 = .ok (.iload 4, 2) := by decide +kernel
theorem dX11_drawn_35 : decode cX11_drawn 35 = .ok (.iconst 0, 1) := by decide +kernel
theorem dX11_drawn_36 : decode cX11_drawn 36 = .ok (.invokevirtual 263, 3) := by decide +kernel
theorem dX11_drawn_39 : decode cX11_drawn 39 = .ok (.aload_n 0, 1) := by decide +kernel
theorem dX11_drawn_40 : decode cX11_drawn 40 = .ok (.iload 4, 2) := by decide +kernel
theorem dX11_drawn_42 : decode cX11_drawn 42 = .ok (.iconst 1, 1) := by decide +kernel
theorem dX11_drawn_43 : decode cX11_drawn 43 = .ok (.invokevirtual 263, 3) := by decide +kernel
theorem dX11_drawn_46 : decode cX11_drawn 46 = .ok (.invokestatic 272, 3) := by decide +kernel
theorem dX11_drawn_49 : decode cX11_drawn 49 = .ok (.istore 5, 2) := by decide +kernel
theorem dX11_drawn_51 : decode cX11_drawn 51 = .ok (.iload_n 3, 1) := by decide +kernel
theorem dX11_drawn_52 : decode cX11_drawn 52 = .ok (.aload_n 0, 1) := by decide +kernel
theorem dX11_drawn_53 : decode cX11_drawn 53 = .ok (.getfield 50, 3) := by decide +kernel
theorem dX11_drawn_56 : decode cX11_drawn 56 = .ok (.iload 5, 2) := by decide +kernel
theorem dX11_drawn_58 : decode cX11_drawn 58 = .ok (.iaload, 1) := by decide +kernel
theorem dX11_drawn_59 : decode cX11_drawn 59 = .ok (.ifCond .ne 7, 3) := by decide +kernel
theorem dX11_drawn_62 : decode cX11_drawn 62 = .ok (.iconst 1, 1) := by decide +kernel
theorem dX11_drawn_63 : decode cX11_drawn 63 = .ok (.goto 4, 3) := by decide +kernel
theorem dX11_drawn_66 : decode cX11_drawn 66 = .ok (.iconst 0, 1) := by decide +kernel
theorem dX11_drawn_67 : decode cX11_drawn 67 = .ok (.iadd, 1) := by decide +kernel
theorem dX11_drawn_68 : decode cX11_drawn 68 = .ok (.istore_n 3, 1) := by decide +kernel
theorem dX11_drawn_69 : decode cX11_drawn 69 = .ok (.aload_n 0, 1) := by decide +kernel
theorem dX11_drawn_70 : decode cX11_drawn 70 = .ok (.getfield 50, 3) := by decide +kernel
theorem dX11_drawn_73 : decode cX11_drawn 73 = .ok (.iload 5, 2) := by decide +kernel
theorem dX11_drawn_75 : decode cX11_drawn 75 = .ok (.iconst 1, 1) := by decide +kernel
theorem dX11_drawn_76 : decode cX11_drawn 76 = .ok (.iastore, 1) := by decide +kernel
theorem dX11_drawn_77 : decode cX11_drawn 77 = .ok (.iinc 4 1, 3) := by decide +kernel
theorem dX11_drawn_80 : decode cX11_drawn 80 = .ok (.goto (-54), 3) := by decide +kernel
theorem dX11_drawn_83 : decode cX11_drawn 83 = .ok (.iload_n 3, 1) := by decide +kernel
theorem dX11_drawn_84 : decode cX11_drawn 84 = .ok (.ireturn, 1) := by decide +kernel
theorem bX11_drawn_0 {G : GX} {h : mH} {Q : mO → mH → Prop} {v1 : Int32} {v2 : Int32} (hi : Iv h) (K : WM G jX11_isSpan [.ref 83, .int v1, .int v2, .int 1] (pI h 83 0 0) (Aft G jX11_drawn 9 [some (.ref 83), some (.int v1), some (.int v2), none, none, none] [] Q)) : Vw G jX11_drawn 0 [some (.ref 83), some (.int v1), some (.int v2), none, none, none] [] h Q :=
  s_aload_n dX11_drawn_0 rfl (s_iconst 0 dX11_drawn_1 (by decide) (s_putI dX11_drawn_2 flX11_113 ff10_0 rfl (hi.sh rfl rfl) (s_aload_n dX11_drawn_5 rfl (s_iload_n dX11_drawn_6 rfl (s_iload_n dX11_drawn_7 rfl (s_iconst 1 dX11_drawn_8 (by decide) (s_callV (As := [.int v1, .int v2, .int 1]) dX11_drawn_9 rfl lvX11_266 ⟨Nat.le_of_ble_eq_true rfl, Nat.le_of_ble_eq_true rfl⟩ (hi.sh rfl rfl) ⟨_, _, by decide, rfl⟩ rfl (Nat.le_of_ble_eq_true rfl) (K))))))))
theorem bX11_drawn_12 {G : GX} {h : mH} {Q : mO → mH → Prop} {v1 : Int32} {v2 : Int32} {vs0 : Int32} (hi : Iv h) (K : (¬ vs0 = 0 → WM G jX11_clears [.ref 83] h (Aft G jX11_drawn 18 [some (.ref 83), some (.int v1), some (.int v2), none, none, none] [] Q)) ∧ (vs0 = 0 → Q (.inl (some (.int 0))) h)) : Vw G jX11_drawn 12 [some (.ref 83), some (.int v1), some (.int v2), none, none, none] [.int vs0] h Q :=
  s_if_ne 17 dX11_drawn_12 rfl (fun q0 => s_aload_n dX11_drawn_17 rfl (s_callV (As := []) dX11_drawn_18 rfl lvX11_269 ⟨Nat.le_of_ble_eq_true rfl, Nat.le_of_ble_eq_true rfl⟩ (hi.sh rfl rfl) ⟨_, _, by decide, rfl⟩ rfl (Nat.le_of_ble_eq_true rfl) ((K.1 q0)))) (fun q0 => s_iconst 0 dX11_drawn_15 (by decide) (s_ireturn dX11_drawn_16 rfl (K.2 q0)))
theorem bX11_drawn_21 {G : GX} {h : mH} {Q : mO → mH → Prop} {v1 : Int32} {v2 : Int32} (hi : Iv h) (K : Vw G jX11_drawn 26 [some (.ref 83), none, some (.int v2), some (.int 0), some (.int v1), none] [] h Q) : Vw G jX11_drawn 21 [some (.ref 83), some (.int v1), some (.int v2), none, none, none] [] h Q :=
  s_iconst 0 dX11_drawn_21 (by decide) (s_istore_n dX11_drawn_22 (Nat.le_of_ble_eq_true rfl) rfl (s_iload_n dX11_drawn_23 rfl (s_istore dX11_drawn_24 (Nat.le_of_ble_eq_true rfl) rfl (Vw.mask [true, false, true, true, true, false] (K)))))
theorem bX11_drawn_26 {G : GX} {h : mH} {Q : mO → mH → Prop} {v2 : Int32} {v3 : Int32} {v4 : Int32} (hi : Iv h) (K : (v2 < v4 → Q (.inl (some (.int v3))) h) ∧ (¬ v2 < v4 → WM G jX11_penNow [.ref 83, .int v4, .int 0] h (Aft G jX11_drawn 36 [some (.ref 83), none, some (.int v2), some (.int v3), some (.int v4), none] [] Q))) : Vw G jX11_drawn 26 [some (.ref 83), none, some (.int v2), some (.int v3), some (.int v4), none] [] h Q :=
  s_iload dX11_drawn_26 rfl (s_iload_n dX11_drawn_28 rfl (s_icmp_gt 83 dX11_drawn_29 rfl (fun q2 => s_iload_n dX11_drawn_83 rfl (s_ireturn dX11_drawn_84 rfl (K.1 q2))) (fun q2 => s_aload_n dX11_drawn_32 rfl (s_iload dX11_drawn_33 rfl (s_iconst 0 dX11_drawn_35 (by decide) (s_callV (As := [.int v4, .int 0]) dX11_drawn_36 rfl lvX11_263 ⟨Nat.le_of_ble_eq_true rfl, Nat.le_of_ble_eq_true rfl⟩ (hi.sh rfl rfl) ⟨_, _, by decide, rfl⟩ rfl (Nat.le_of_ble_eq_true rfl) ((K.2 q2))))))))
theorem bX11_drawn_39 {G : GX} {h : mH} {Q : mO → mH → Prop} {v2 : Int32} {v3 : Int32} {v4 : Int32} {vs0 : Int32} (hi : Iv h) (K : WM G jX11_penNow [.ref 83, .int v4, .int 1] h (Aft G jX11_drawn 43 [some (.ref 83), none, some (.int v2), some (.int v3), some (.int v4), none] [.int vs0] Q)) : Vw G jX11_drawn 39 [some (.ref 83), none, some (.int v2), some (.int v3), some (.int v4), none] [.int vs0] h Q :=
  s_aload_n dX11_drawn_39 rfl (s_iload dX11_drawn_40 rfl (s_iconst 1 dX11_drawn_42 (by decide) (s_callV (As := [.int v4, .int 1]) dX11_drawn_43 rfl lvX11_263 ⟨Nat.le_of_ble_eq_true rfl, Nat.le_of_ble_eq_true rfl⟩ (hi.sh rfl rfl) ⟨_, _, by decide, rfl⟩ rfl (Nat.le_of_ble_eq_true rfl) (K))))
theorem bX11_drawn_46 {G : GX} {h : mH} {Q : mO → mH → Prop} {v2 : Int32} {v3 : Int32} {v4 : Int32} {vs0 : Int32} {vs1 : Int32} (hi : Iv h) (K : vp_in (fX11_cellOf vs1 vs0) 729 ∧ ((¬ (gI h 96 (Int32.toNatClampNeg (fX11_cellOf vs1 vs0))) = 0 → (vp_in (fX11_cellOf vs1 vs0) 729 ∧ Vw G jX11_drawn 26 [some (.ref 83), none, some (.int v2), some (.int (v3 + 0)), some (.int (v4 + 1)), none] [] (pI h 96 (Int32.toNatClampNeg (fX11_cellOf vs1 vs0)) 1) Q)) ∧ ((gI h 96 (Int32.toNatClampNeg (fX11_cellOf vs1 vs0))) = 0 → (vp_in (fX11_cellOf vs1 vs0) 729 ∧ Vw G jX11_drawn 26 [some (.ref 83), none, some (.int v2), some (.int (v3 + 1)), some (.int (v4 + 1)), none] [] (pI h 96 (Int32.toNatClampNeg (fX11_cellOf vs1 vs0)) 1) Q)))) : Vw G jX11_drawn 46 [some (.ref 83), none, some (.int v2), some (.int v3), some (.int v4), none] [.int vs0, .int vs1] h Q :=
  s_callS (As := [.int vs1, .int vs0]) dX11_drawn_46 rfl lsX11_272 ⟨Nat.le_of_ble_eq_true rfl, Nat.le_of_ble_eq_true rfl⟩ rfl (Nat.le_of_ble_eq_true rfl) (mX11_cellOf   (s_istore dX11_drawn_49 (Nat.le_of_ble_eq_true rfl) rfl (s_iload_n dX11_drawn_51 rfl (s_aload_n dX11_drawn_52 rfl (s_getR (v := .ref 96) dX11_drawn_53 flX11_50 rfl (hi.sh rfl rfl) (hi.rf (o := 83) (k := 29) (d := 13) rfl rfl) (s_iload dX11_drawn_56 rfl (s_iaload dX11_drawn_58 (hi.sh rfl rfl) K.1 (s_if_ne 66 dX11_drawn_59 rfl (fun q7 => s_iconst 0 dX11_drawn_66 (by decide) (s_iadd dX11_drawn_67 (s_istore_n dX11_drawn_68 (Nat.le_of_ble_eq_true rfl) rfl (s_aload_n dX11_drawn_69 rfl (s_getR (v := .ref 96) dX11_drawn_70 flX11_50 rfl (hi.sh rfl rfl) (hi.rf (o := 83) (k := 29) (d := 13) rfl rfl) (s_iload dX11_drawn_73 rfl (s_iconst 1 dX11_drawn_75 (by decide) (s_iastore dX11_drawn_76 (hi.sh rfl rfl) (K.2.1 q7).1 (s_iinc 1 dX11_drawn_77 rfl (by decide) (Nat.le_of_ble_eq_true rfl) rfl (s_goto 26 dX11_drawn_80 rfl (Vw.mask [true, false, true, true, true, false] ((K.2.1 q7).2)))))))))))) (fun q7 => s_iconst 1 dX11_drawn_62 (by decide) (s_goto 67 dX11_drawn_63 rfl (s_iadd dX11_drawn_67 (s_istore_n dX11_drawn_68 (Nat.le_of_ble_eq_true rfl) rfl (s_aload_n dX11_drawn_69 rfl (s_getR (v := .ref 96) dX11_drawn_70 flX11_50 rfl (hi.sh rfl rfl) (hi.rf (o := 83) (k := 29) (d := 13) rfl rfl) (s_iload dX11_drawn_73 rfl (s_iconst 1 dX11_drawn_75 (by decide) (s_iastore dX11_drawn_76 (hi.sh rfl rfl) (K.2.2 q7).1 (s_iinc 1 dX11_drawn_77 rfl (by decide) (Nat.le_of_ble_eq_true rfl) rfl (s_goto 26 dX11_drawn_80 rfl (Vw.mask [true, false, true, true, true, false] ((K.2.2 q7).2)))))))))))))))))))))
theorem eX11_drawn {G : GX} {h : mH} {Q : mO → mH → Prop} {v1 : Int32} {v2 : Int32} (hi : Iv h) (K : WM G jX11_isSpan [.ref 83, .int v1, .int v2, .int 1] (pI h 83 0 0) (Aft G jX11_drawn 9 [some (.ref 83), some (.int v1), some (.int v2), none, none, none] [] Q)) : WM G jX11_drawn [.ref 83, .int v1, .int v2] h Q :=
  WM.body (ls := [some (.ref 83), some (.int v1), some (.int v2), none, none, none]) rfl (by decide +kernel) rfl (Nat.le_of_ble_eq_true rfl) rfl ((bX11_drawn_0 hi  K))
theorem dX11_inCell_0 : decode cX11_inCell 0 = .ok (.aload_n 0, 1) := by decide +kernel
theorem dX11_inCell_1 : decode cX11_inCell 1 = .ok (.iconst 0, 1) := by decide +kernel
theorem dX11_inCell_2 : decode cX11_inCell 2 = .ok (.putfield 113, 3) := by decide +kernel
theorem dX11_inCell_5 : decode cX11_inCell 5 = .ok (.aload_n 0, 1) := by decide +kernel
theorem dX11_inCell_6 : decode cX11_inCell 6 = .ok (.iload_n 1, 1) := by decide +kernel
theorem dX11_inCell_7 : decode cX11_inCell 7 = .ok (.iconst 0, 1) := by decide +kernel
theorem dX11_inCell_8 : decode cX11_inCell 8 = .ok (.sipush 728, 3) := by decide +kernel
theorem dX11_inCell_11 : decode cX11_inCell 11 = .ok (.invokestatic 238, 3) := by decide +kernel
theorem dX11_inCell_14 : decode cX11_inCell 14 = .ok (.iconst 1, 1) := by decide +kernel
theorem dX11_inCell_15 : decode cX11_inCell 15 = .ok (.invokevirtual 209, 3) := by decide +kernel
theorem dX11_inCell_18 : decode cX11_inCell 18 = .ok (.ifCond .eq 13, 3) := by decide +kernel
theorem dX11_inCell_21 : decode cX11_inCell 21 = .ok (.aload_n 0, 1) := by decide +kernel
theorem dX11_inCell_22 : decode cX11_inCell 22 = .ok (.iload_n 2, 1) := by decide +kernel
theorem dX11_inCell_23 : decode cX11_inCell 23 = .ok (.iload_n 3, 1) := by decide +kernel
theorem dX11_inCell_24 : decode cX11_inCell 24 = .ok (.iconst 2, 1) := by decide +kernel
theorem dX11_inCell_25 : decode cX11_inCell 25 = .ok (.invokevirtual 266, 3) := by decide +kernel
theorem dX11_inCell_28 : decode cX11_inCell 28 = .ok (.ifCond .ne 5, 3) := by decide +kernel
theorem dX11_inCell_31 : decode cX11_inCell 31 = .ok (.iconst 0, 1) := by decide +kernel
theorem dX11_inCell_32 : decode cX11_inCell 32 = .ok (.ireturn, 1) := by decide +kernel
theorem dX11_inCell_33 : decode cX11_inCell 33 = .ok (.iload_n 2, 1) := by decide +kernel
theorem dX11_inCell_34 : decode cX11_inCell 34 = .ok (.istore 4, 2) := by decide +kernel
theorem dX11_inCell_36 : decode cX11_inCell 36 = .ok (.iload 4, 2) := by decide +kernel
theorem dX11_inCell_38 : decode cX11_inCell 38 = .ok (.iload_n 3, 1) := by decide +kernel
theorem dX11_inCell_39 : decode cX11_inCell 39 = .ok (.if_icmp .gt 33, 3) := by decide +kernel
theorem dX11_inCell_42 : decode cX11_inCell 42 = .ok (.aload_n 0, 1) := by decide +kernel
theorem dX11_inCell_43 : decode cX11_inCell 43 = .ok (.iload 4, 2) := by decide +kernel
theorem dX11_inCell_45 : decode cX11_inCell 45 = .ok (.iconst 0, 1) := by decide +kernel
theorem dX11_inCell_46 : decode cX11_inCell 46 = .ok (.invokevirtual 263, 3) := by decide +kernel
theorem dX11_inCell_49 : decode cX11_inCell 49 = .ok (.aload_n 0, 1) := by decide +kernel
theorem dX11_inCell_50 : decode cX11_inCell 50 = .ok (.iload 4, 2) := by decide +kernel
theorem dX11_inCell_52 : decode cX11_inCell 52 = .ok (.iconst 1, 1) := by decide +kernel
theorem dX11_inCell_53 : decode cX11_inCell 53 = .ok (.invokevirtual 263, 3) := by decide +kernel
theorem dX11_inCell_56 : decode cX11_inCell 56 = .ok (.invokestatic 272, 3) := by decide +kernel
theorem dX11_inCell_59 : decode cX11_inCell 59 = .ok (.iload_n 1, 1) := by decide +kernel
theorem dX11_inCell_60 : decode cX11_inCell 60 = .ok (.if_icmp .ne 6, 3) := by decide +kernel
theorem dX11_inCell_63 : decode cX11_inCell 63 = .ok (.iload 4, 2) := by decide +kernel
theorem dX11_inCell_65 : decode cX11_inCell 65 = .ok (.ireturn, 1) := by decide +kernel
theorem dX11_inCell_66 : decode cX11_inCell 66 = .ok (.iinc 4 1, 3) := by decide +kernel
theorem dX11_inCell_69 : decode cX11_inCell 69 = .ok (.goto (-33), 3) := by decide +kernel
theorem dX11_inCell_72 : decode cX11_inCell 72 = .ok (.iconst (-1), 1) := by decide +kernel
theorem dX11_inCell_73 : decode cX11_inCell 73 = .ok (.ireturn, 1) := by decide +kernel
theorem bX11_inCell_0 {G : GX} {h : mH} {Q : mO → mH → Prop} {v1 : Int32} {v2 : Int32} {v3 : Int32} (hi : Iv h) (K : WM G jX11_right [.ref 83, .int (fX11_within v1 0 728), .int 1] (pI h 83 0 0) (Aft G jX11_inCell 15 [some (.ref 83), some (.int v1), some (.int v2), some (.int v3), none] [] Q)) : Vw G jX11_inCell 0 [some (.ref 83), some (.int v1), some (.int v2), some (.int v3), none] [] h Q :=
  s_aload_n dX11_inCell_0 rfl (s_iconst 0 dX11_inCell_1 (by decide) (s_putI dX11_inCell_2 flX11_113 ff10_0 rfl (hi.sh rfl rfl) (s_aload_n dX11_inCell_5 rfl (s_iload_n dX11_inCell_6 rfl (s_iconst 0 dX11_inCell_7 (by decide) (s_sipush 728 dX11_inCell_8 (by decide) (s_callS (As := [.int v1, .int 0, .int 728]) dX11_inCell_11 rfl lsX11_238 ⟨Nat.le_of_ble_eq_true rfl, Nat.le_of_ble_eq_true rfl⟩ rfl (Nat.le_of_ble_eq_true rfl) (mX11_within   (s_iconst 1 dX11_inCell_14 (by decide) (s_callV (As := [.int (fX11_within v1 0 728), .int 1]) dX11_inCell_15 rfl lvX11_209 ⟨Nat.le_of_ble_eq_true rfl, Nat.le_of_ble_eq_true rfl⟩ (hi.sh rfl rfl) ⟨_, _, by decide, rfl⟩ rfl (Nat.le_of_ble_eq_true rfl) (K)))))))))))
theorem bX11_inCell_18 {G : GX} {h : mH} {Q : mO → mH → Prop} {v1 : Int32} {v2 : Int32} {v3 : Int32} {vs0 : Int32} (hi : Iv h) (K : (vs0 = 0 → Q (.inl (some (.int 0))) h) ∧ (¬ vs0 = 0 → WM G jX11_isSpan [.ref 83, .int v2, .int v3, .int 2] h (Aft G jX11_inCell 25 [some (.ref 83), some (.int v1), some (.int v2), some (.int v3), none] [] Q))) : Vw G jX11_inCell 18 [some (.ref 83), some (.int v1), some (.int v2), some (.int v3), none] [.int vs0] h Q :=
  s_if_eq 31 dX11_inCell_18 rfl (fun q0 => s_iconst 0 dX11_inCell_31 (by decide) (s_ireturn dX11_inCell_32 rfl (K.1 q0))) (fun q0 => s_aload_n dX11_inCell_21 rfl (s_iload_n dX11_inCell_22 rfl (s_iload_n dX11_inCell_23 rfl (s_iconst 2 dX11_inCell_24 (by decide) (s_callV (As := [.int v2, .int v3, .int 2]) dX11_inCell_25 rfl lvX11_266 ⟨Nat.le_of_ble_eq_true rfl, Nat.le_of_ble_eq_true rfl⟩ (hi.sh rfl rfl) ⟨_, _, by decide, rfl⟩ rfl (Nat.le_of_ble_eq_true rfl) ((K.2 q0)))))))
theorem bX11_inCell_28 {G : GX} {h : mH} {Q : mO → mH → Prop} {v1 : Int32} {v2 : Int32} {v3 : Int32} {vs0 : Int32} (hi : Iv h) (K : (¬ vs0 = 0 → Vw G jX11_inCell 36 [some (.ref 83), some (.int v1), none, some (.int v3), some (.int v2)] [] h Q) ∧ (vs0 = 0 → Q (.inl (some (.int 0))) h)) : Vw G jX11_inCell 28 [some (.ref 83), some (.int v1), some (.int v2), some (.int v3), none] [.int vs0] h Q :=
  s_if_ne 33 dX11_inCell_28 rfl (fun q0 => s_iload_n dX11_inCell_33 rfl (s_istore dX11_inCell_34 (Nat.le_of_ble_eq_true rfl) rfl (Vw.mask [true, true, false, true, true] ((K.1 q0))))) (fun q0 => s_iconst 0 dX11_inCell_31 (by decide) (s_ireturn dX11_inCell_32 rfl (K.2 q0)))
theorem bX11_inCell_36 {G : GX} {h : mH} {Q : mO → mH → Prop} {v1 : Int32} {v3 : Int32} {v4 : Int32} (hi : Iv h) (K : (v3 < v4 → Q (.inl (some (.int (-1)))) h) ∧ (¬ v3 < v4 → WM G jX11_penNow [.ref 83, .int v4, .int 0] h (Aft G jX11_inCell 46 [some (.ref 83), some (.int v1), none, some (.int v3), some (.int v4)] [] Q))) : Vw G jX11_inCell 36 [some (.ref 83), some (.int v1), none, some (.int v3), some (.int v4)] [] h Q :=
  s_iload dX11_inCell_36 rfl (s_iload_n dX11_inCell_38 rfl (s_icmp_gt 72 dX11_inCell_39 rfl (fun q2 => s_iconst (-1) dX11_inCell_72 (by decide) (s_ireturn dX11_inCell_73 rfl (K.1 q2))) (fun q2 => s_aload_n dX11_inCell_42 rfl (s_iload dX11_inCell_43 rfl (s_iconst 0 dX11_inCell_45 (by decide) (s_callV (As := [.int v4, .int 0]) dX11_inCell_46 rfl lvX11_263 ⟨Nat.le_of_ble_eq_true rfl, Nat.le_of_ble_eq_true rfl⟩ (hi.sh rfl rfl) ⟨_, _, by decide, rfl⟩ rfl (Nat.le_of_ble_eq_true rfl) ((K.2 q2))))))))
theorem bX11_inCell_49 {G : GX} {h : mH} {Q : mO → mH → Prop} {v1 : Int32} {v3 : Int32} {v4 : Int32} {vs0 : Int32} (hi : Iv h) (K : WM G jX11_penNow [.ref 83, .int v4, .int 1] h (Aft G jX11_inCell 53 [some (.ref 83), some (.int v1), none, some (.int v3), some (.int v4)] [.int vs0] Q)) : Vw G jX11_inCell 49 [some (.ref 83), some (.int v1), none, some (.int v3), some (.int v4)] [.int vs0] h Q :=
  s_aload_n dX11_inCell_49 rfl (s_iload dX11_inCell_50 rfl (s_iconst 1 dX11_inCell_52 (by decide) (s_callV (As := [.int v4, .int 1]) dX11_inCell_53 rfl lvX11_263 ⟨Nat.le_of_ble_eq_true rfl, Nat.le_of_ble_eq_true rfl⟩ (hi.sh rfl rfl) ⟨_, _, by decide, rfl⟩ rfl (Nat.le_of_ble_eq_true rfl) (K))))
theorem bX11_inCell_56 {G : GX} {h : mH} {Q : mO → mH → Prop} {v1 : Int32} {v3 : Int32} {v4 : Int32} {vs0 : Int32} {vs1 : Int32} (hi : Iv h) (K : (¬ (fX11_cellOf vs1 vs0) = v1 → Vw G jX11_inCell 36 [some (.ref 83), some (.int v1), none, some (.int v3), some (.int (v4 + 1))] [] h Q) ∧ ((fX11_cellOf vs1 vs0) = v1 → Q (.inl (some (.int v4))) h)) : Vw G jX11_inCell 56 [some (.ref 83), some (.int v1), none, some (.int v3), some (.int v4)] [.int vs0, .int vs1] h Q :=
  s_callS (As := [.int vs1, .int vs0]) dX11_inCell_56 rfl lsX11_272 ⟨Nat.le_of_ble_eq_true rfl, Nat.le_of_ble_eq_true rfl⟩ rfl (Nat.le_of_ble_eq_true rfl) (mX11_cellOf   (s_iload_n dX11_inCell_59 rfl (s_icmp_ne 66 dX11_inCell_60 rfl (fun q2 => s_iinc 1 dX11_inCell_66 rfl (by decide) (Nat.le_of_ble_eq_true rfl) rfl (s_goto 36 dX11_inCell_69 rfl ((K.1 q2)))) (fun q2 => s_iload dX11_inCell_63 rfl (s_ireturn dX11_inCell_65 rfl (K.2 q2))))))
theorem eX11_inCell {G : GX} {h : mH} {Q : mO → mH → Prop} {v1 : Int32} {v2 : Int32} {v3 : Int32} (hi : Iv h) (K : WM G jX11_right [.ref 83, .int (fX11_within v1 0 728), .int 1] (pI h 83 0 0) (Aft G jX11_inCell 15 [some (.ref 83), some (.int v1), some (.int v2), some (.int v3), none] [] Q)) : WM G jX11_inCell [.ref 83, .int v1, .int v2, .int v3] h Q :=
  WM.body (ls := [some (.ref 83), some (.int v1), some (.int v2), some (.int v3), none]) rfl (by decide +kernel) rfl (Nat.le_of_ble_eq_true rfl) rfl ((bX11_inCell_0 hi  K))
theorem dX11_roundOf_0 : decode cX11_roundOf 0 = .ok (.iconst 1, 1) := by decide +kernel
theorem dX11_roundOf_1 : decode cX11_roundOf 1 = .ok (.istore_n 3, 1) := by decide +kernel
theorem dX11_roundOf_2 : decode cX11_roundOf 2 = .ok (.iconst 0, 1) := by decide +kernel
theorem dX11_roundOf_3 : decode cX11_roundOf 3 = .ok (.istore 4, 2) := by decide +kernel
theorem dX11_roundOf_5 : decode cX11_roundOf 5 = .ok (.iload 4, 2) := by decide +kernel
theorem dX11_roundOf_7 : decode cX11_roundOf 7 = .ok (.iconst 4, 1) := by decide +kernel
theorem dX11_roundOf_8 : decode cX11_roundOf 8 = .ok (.if_icmp .ge 48, 3) := by decide +kernel
theorem dX11_roundOf_11 : decode cX11_roundOf 11 = .ok (.aload_n 1, 1) := by decide +kernel
theorem dX11_roundOf_12 : decode cX11_roundOf 12 = .ok (.iload_n 2, 1) := by decide +kernel
theorem dX11_roundOf_13 : decode cX11_roundOf 13 = .ok (.bipush 8, 2) := by decide +kernel
theorem dX11_roundOf_15 : decode cX11_roundOf 15 = .ok (.iadd, 1) := by decide +kernel
theorem dX11_roundOf_16 : decode cX11_roundOf 16 = .ok (.iload 4, 2) := by decide +kernel
theorem dX11_roundOf_18 : decode cX11_roundOf 18 = .ok (.iadd, 1) := by decide +kernel
theorem dX11_roundOf_19 : decode cX11_roundOf 19 = .ok (.iaload, 1) := by decide +kernel
theorem dX11_roundOf_20 : decode cX11_roundOf 20 = .ok (.ifCond .ne 6, 3) := by decide +kernel
theorem dX11_roundOf_23 : decode cX11_roundOf 23 = .ok (.goto 27, 3) := by decide +kernel
theorem dX11_roundOf_26 : decode cX11_roundOf 26 = .ok (.iload_n 3, 1) := by decide +kernel
theorem dX11_roundOf_27 : decode cX11_roundOf 27 = .ok (.istore 5, 2) := by decide +kernel
theorem dX11_roundOf_29 : decode cX11_roundOf 29 = .ok (.iload_n 3, 1) := by decide +kernel
theorem dX11_roundOf_30 : decode cX11_roundOf 30 = .ok (.aload_n 0, 1) := by decide +kernel
theorem dX11_roundOf_31 : decode cX11_roundOf 31 = .ok (.aload_n 1, 1) := by decide +kernel
theorem dX11_roundOf_32 : decode cX11_roundOf 32 = .ok (.iload_n 2, 1) := by decide +kernel
theorem dX11_roundOf_33 : decode cX11_roundOf 33 = .ok (.iload 4, 2) := by decide +kernel
theorem dX11_roundOf_35 : decode cX11_roundOf 35 = .ok (.invokevirtual 245, 3) := by decide +kernel
theorem dX11_roundOf_38 : decode cX11_roundOf 38 = .ok (.irem, 1) := by decide +kernel
theorem dX11_roundOf_39 : decode cX11_roundOf 39 = .ok (.ifCond .eq 11, 3) := by decide +kernel
theorem dX11_roundOf_42 : decode cX11_roundOf 42 = .ok (.iload_n 3, 1) := by decide +kernel
theorem dX11_roundOf_43 : decode cX11_roundOf 43 = .ok (.iload 5, 2) := by decide +kernel
theorem dX11_roundOf_45 : decode cX11_roundOf 45 = .ok (.iadd, 1) := by decide +kernel
theorem dX11_roundOf_46 : decode cX11_roundOf 46 = .ok (.istore_n 3, 1) := by decide +kernel
theorem dX11_roundOf_47 : decode cX11_roundOf 47 = .ok (.goto (-18), 3) := by decide +kernel
theorem dX11_roundOf_50 : decode cX11_roundOf 50 = .ok (.iinc 4 1, 3) := by decide +kernel
theorem dX11_roundOf_53 : decode cX11_roundOf 53 = .ok (.goto (-48), 3) := by decide +kernel
theorem dX11_roundOf_56 : decode cX11_roundOf 56 = .ok (.iload_n 3, 1) := by decide +kernel
theorem dX11_roundOf_57 : decode cX11_roundOf 57 = .ok (.ireturn, 1) := by decide +kernel
theorem bX11_roundOf_0 {G : GX} {h : mH} {Q : mO → mH → Prop} {r1 : Nat} {n1 : Nat} {v2 : Int32} (hi : Iv h) (k1 : kd r1 = (100, n1)) (K : Vw G jX11_roundOf 5 [some (.ref 83), some (.ref r1), some (.int v2), some (.int 1), some (.int 0), none] [] h Q) : Vw G jX11_roundOf 0 [some (.ref 83), some (.ref r1), some (.int v2), none, none, none] [] h Q :=
  s_iconst 1 dX11_roundOf_0 (by decide) (s_istore_n dX11_roundOf_1 (Nat.le_of_ble_eq_true rfl) rfl (s_iconst 0 dX11_roundOf_2 (by decide) (s_istore dX11_roundOf_3 (Nat.le_of_ble_eq_true rfl) rfl (K))))
theorem bX11_roundOf_5 {G : GX} {h : mH} {Q : mO → mH → Prop} {r1 : Nat} {n1 : Nat} {v2 : Int32} {v3 : Int32} {v4 : Int32} (hi : Iv h) (k1 : kd r1 = (100, n1)) (K : (4 ≤ v4 → Q (.inl (some (.int v3))) h) ∧ (¬ 4 ≤ v4 → (vp_in ((v2 + 8) + v4) n1 ∧ ((¬ (gI h r1 (Int32.toNatClampNeg ((v2 + 8) + v4))) = 0 → Vw G jX11_roundOf 29 [some (.ref 83), some (.ref r1), some (.int v2), some (.int v3), some (.int v4), some (.int v3)] [] h Q) ∧ ((gI h r1 (Int32.toNatClampNeg ((v2 + 8) + v4))) = 0 → Vw G jX11_roundOf 50 [some (.ref 83), some (.ref r1), some (.int v2), some (.int v3), some (.int v4), none] [] h Q))))) : Vw G jX11_roundOf 5 [some (.ref 83), some (.ref r1), some (.int v2), some (.int v3), some (.int v4), none] [] h Q :=
  s_iload dX11_roundOf_5 rfl (s_iconst 4 dX11_roundOf_7 (by decide) (s_icmp_ge 56 dX11_roundOf_8 rfl (fun q2 => s_iload_n dX11_roundOf_56 rfl (s_ireturn dX11_roundOf_57 rfl (K.1 q2))) (fun q2 => s_aload_n dX11_roundOf_11 rfl (s_iload_n dX11_roundOf_12 rfl (s_bipush 8 dX11_roundOf_13 (by decide) (s_iadd dX11_roundOf_15 (s_iload dX11_roundOf_16 rfl (s_iadd dX11_roundOf_18 (s_iaload dX11_roundOf_19 (hi.sh k1 rfl) (K.2 q2).1 (s_if_ne 26 dX11_roundOf_20 rfl (fun q10 => s_iload_n dX11_roundOf_26 rfl (s_istore dX11_roundOf_27 (Nat.le_of_ble_eq_true rfl) rfl (((K.2 q2).2.1 q10)))) (fun q10 => s_goto 50 dX11_roundOf_23 rfl (((K.2 q2).2.2 q10)))))))))))))
theorem bX11_roundOf_29 {G : GX} {h : mH} {Q : mO → mH → Prop} {r1 : Nat} {n1 : Nat} {v2 : Int32} {v3 : Int32} {v4 : Int32} {v5 : Int32} (hi : Iv h) (k1 : kd r1 = (100, n1)) (K : WM G jX11_period [.ref 83, .ref r1, .int v2, .int v4] h (Aft G jX11_roundOf 35 [some (.ref 83), some (.ref r1), some (.int v2), some (.int v3), some (.int v4), some (.int v5)] [.int v3] Q)) : Vw G jX11_roundOf 29 [some (.ref 83), some (.ref r1), some (.int v2), some (.int v3), some (.int v4), some (.int v5)] [] h Q :=
  s_iload_n dX11_roundOf_29 rfl (s_aload_n dX11_roundOf_30 rfl (s_aload_n dX11_roundOf_31 rfl (s_iload_n dX11_roundOf_32 rfl (s_iload dX11_roundOf_33 rfl (s_callV (As := [.ref r1, .int v2, .int v4]) dX11_roundOf_35 rfl lvX11_245 ⟨Nat.le_of_ble_eq_true rfl, Nat.le_of_ble_eq_true rfl⟩ (hi.sh rfl rfl) ⟨_, _, by decide, rfl⟩ rfl (Nat.le_of_ble_eq_true rfl) (K))))))
theorem bX11_roundOf_38 {G : GX} {h : mH} {Q : mO → mH → Prop} {r1 : Nat} {n1 : Nat} {v2 : Int32} {v3 : Int32} {v4 : Int32} {v5 : Int32} {vs0 : Int32} {vs1 : Int32} (hi : Iv h) (k1 : kd r1 = (100, n1)) (K : ¬ vs0 = 0 ∧ (((vs1 - vs1 / vs0 * vs0) = 0 → Vw G jX11_roundOf 50 [some (.ref 83), some (.ref r1), some (.int v2), some (.int v3), some (.int v4), none] [] h Q) ∧ (¬ (vs1 - vs1 / vs0 * vs0) = 0 → Vw G jX11_roundOf 29 [some (.ref 83), some (.ref r1), some (.int v2), some (.int (v3 + v5)), some (.int v4), some (.int v5)] [] h Q))) : Vw G jX11_roundOf 38 [some (.ref 83), some (.ref r1), some (.int v2), some (.int v3), some (.int v4), some (.int v5)] [.int vs0, .int vs1] h Q :=
  s_irem dX11_roundOf_38 K.1 (s_if_eq 50 dX11_roundOf_39 rfl (fun q1 => Vw.mask [true, true, true, true, true, false] ((K.2.1 q1))) (fun q1 => s_iload_n dX11_roundOf_42 rfl (s_iload dX11_roundOf_43 rfl (s_iadd dX11_roundOf_45 (s_istore_n dX11_roundOf_46 (Nat.le_of_ble_eq_true rfl) rfl (s_goto 29 dX11_roundOf_47 rfl ((K.2.2 q1))))))))
theorem bX11_roundOf_50 {G : GX} {h : mH} {Q : mO → mH → Prop} {r1 : Nat} {n1 : Nat} {v2 : Int32} {v3 : Int32} {v4 : Int32} (hi : Iv h) (k1 : kd r1 = (100, n1)) (K : Vw G jX11_roundOf 5 [some (.ref 83), some (.ref r1), some (.int v2), some (.int v3), some (.int (v4 + 1)), none] [] h Q) : Vw G jX11_roundOf 50 [some (.ref 83), some (.ref r1), some (.int v2), some (.int v3), some (.int v4), none] [] h Q :=
  s_iinc 1 dX11_roundOf_50 rfl (by decide) (Nat.le_of_ble_eq_true rfl) rfl (s_goto 5 dX11_roundOf_53 rfl (K))
theorem eX11_roundOf {G : GX} {h : mH} {Q : mO → mH → Prop} {r1 : Nat} {n1 : Nat} {v2 : Int32} (hi : Iv h) (k1 : kd r1 = (100, n1)) (K : Vw G jX11_roundOf 5 [some (.ref 83), some (.ref r1), some (.int v2), some (.int 1), some (.int 0), none] [] h Q) : WM G jX11_roundOf [.ref 83, .ref r1, .int v2] h Q :=
  WM.body (ls := [some (.ref 83), some (.ref r1), some (.int v2), none, none, none]) rfl (by decide +kernel) rfl (Nat.le_of_ble_eq_true rfl) rfl ((bX11_roundOf_0 hi k1 K))
theorem dX11_round_0 : decode cX11_round 0 = .ok (.aload_n 0, 1) := by decide +kernel
theorem dX11_round_1 : decode cX11_round 1 = .ok (.iconst 0, 1) := by decide +kernel
theorem dX11_round_2 : decode cX11_round 2 = .ok (.putfield 113, 3) := by decide +kernel
theorem dX11_round_5 : decode cX11_round 5 = .ok (.aload_n 0, 1) := by decide +kernel
theorem dX11_round_6 : decode cX11_round 6 = .ok (.aload_n 0, 1) := by decide +kernel
theorem dX11_round_7 : decode cX11_round 7 = .ok (.getfield 19, 3) := by decide +kernel
theorem dX11_round_10 : decode cX11_round 10 = .ok (.iconst 0, 1) := by decide +kernel
theorem dX11_round_11 : decode cX11_round 11 = .ok (.invokevirtual 275, 3) := by decide +kernel
theorem dX11_round_14 : decode cX11_round 14 = .ok (.ireturn, 1) := by decide +kernel
theorem bX11_round_0 {G : GX} {h : mH} {Q : mO → mH → Prop} (hi : Iv h) (K : WM G jX11_roundOf [.ref 83, .ref 87, .int 0] (pI h 83 0 0) (Aft G jX11_round 11 [none] [] Q)) : Vw G jX11_round 0 [some (.ref 83)] [] h Q :=
  s_aload_n dX11_round_0 rfl (s_iconst 0 dX11_round_1 (by decide) (s_putI dX11_round_2 flX11_113 ff10_0 rfl (hi.sh rfl rfl) (s_aload_n dX11_round_5 rfl (s_aload_n dX11_round_6 rfl (s_getR (v := .ref 87) dX11_round_7 flX11_19 rfl (hi.sh rfl rfl) (hi.rf (o := 83) (k := 6) (d := 4) rfl rfl) (s_iconst 0 dX11_round_10 (by decide) (Vw.mask [false] (s_callV (As := [.ref 87, .int 0]) dX11_round_11 rfl lvX11_275 ⟨Nat.le_of_ble_eq_true rfl, Nat.le_of_ble_eq_true rfl⟩ (hi.sh rfl rfl) ⟨_, _, by decide, rfl⟩ rfl (Nat.le_of_ble_eq_true rfl) (K)))))))))
theorem bX11_round_14 {G : GX} {h : mH} {Q : mO → mH → Prop} {vs0 : Int32} (hi : Iv h) (K : Q (.inl (some (.int vs0))) h) : Vw G jX11_round 14 [none] [.int vs0] h Q :=
  s_ireturn dX11_round_14 rfl K
theorem eX11_round {G : GX} {h : mH} {Q : mO → mH → Prop} (hi : Iv h) (K : WM G jX11_roundOf [.ref 83, .ref 87, .int 0] (pI h 83 0 0) (Aft G jX11_round 11 [none] [] Q)) : WM G jX11_round [.ref 83] h Q :=
  WM.body (ls := [some (.ref 83)]) rfl (by decide +kernel) rfl (Nat.le_of_ble_eq_true rfl) rfl ((bX11_round_0 hi  K))
theorem dX11_off_0 : decode cX11_off 0 = .ok (.aload_n 0, 1) := by decide +kernel
theorem dX11_off_1 : decode cX11_off 1 = .ok (.iconst 0, 1) := by decide +kernel
theorem dX11_off_2 : decode cX11_off 2 = .ok (.putfield 113, 3) := by decide +kernel
theorem dX11_off_5 : decode cX11_off 5 = .ok (.aload_n 0, 1) := by decide +kernel
theorem dX11_off_6 : decode cX11_off 6 = .ok (.aload_n 0, 1) := by decide +kernel
theorem dX11_off_7 : decode cX11_off 7 = .ok (.getfield 19, 3) := by decide +kernel
theorem dX11_off_10 : decode cX11_off 10 = .ok (.iconst 0, 1) := by decide +kernel
theorem dX11_off_11 : decode cX11_off 11 = .ok (.invokevirtual 275, 3) := by decide +kernel
theorem dX11_off_14 : decode cX11_off 14 = .ok (.istore_n 1, 1) := by decide +kernel
theorem dX11_off_15 : decode cX11_off 15 = .ok (.aload_n 0, 1) := by decide +kernel
theorem dX11_off_16 : decode cX11_off 16 = .ok (.aload_n 0, 1) := by decide +kernel
theorem dX11_off_17 : decode cX11_off 17 = .ok (.getfield 19, 3) := by decide +kernel
theorem dX11_off_20 : decode cX11_off 20 = .ok (.iconst 0, 1) := by decide +kernel
theorem dX11_off_21 : decode cX11_off 21 = .ok (.iload_n 1, 1) := by decide +kernel
theorem dX11_off_22 : decode cX11_off 22 = .ok (.iconst 0, 1) := by decide +kernel
theorem dX11_off_23 : decode cX11_off 23 = .ok (.invokevirtual 256, 3) := by decide +kernel
theorem dX11_off_26 : decode cX11_off 26 = .ok (.aload_n 0, 1) := by decide +kernel
theorem dX11_off_27 : decode cX11_off 27 = .ok (.aload_n 0, 1) := by decide +kernel
theorem dX11_off_28 : decode cX11_off 28 = .ok (.getfield 19, 3) := by decide +kernel
theorem dX11_off_31 : decode cX11_off 31 = .ok (.iconst 0, 1) := by decide +kernel
theorem dX11_off_32 : decode cX11_off 32 = .ok (.iconst 0, 1) := by decide +kernel
theorem dX11_off_33 : decode cX11_off 33 = .ok (.iconst 0, 1) := by decide +kernel
theorem dX11_off_34 : decode cX11_off 34 = .ok (.invokevirtual 256, 3) := by decide +kernel
theorem dX11_off_37 : decode cX11_off 37 = .ok (.isub, 1) := by decide +kernel
theorem dX11_off_38 : decode cX11_off 38 = .ok (.invokestatic 279, 3) := by decide +kernel
theorem dX11_off_41 : decode cX11_off 41 = .ok (.aload_n 0, 1) := by decide +kernel
theorem dX11_off_42 : decode cX11_off 42 = .ok (.aload_n 0, 1) := by decide +kernel
theorem dX11_off_43 : decode cX11_off 43 = .ok (.getfield 19, 3) := by decide +kernel
theorem dX11_off_46 : decode cX11_off 46 = .ok (.iconst 0, 1) := by decide +kernel
theorem dX11_off_47 : decode cX11_off 47 = .ok (.iload_n 1, 1) := by decide +kernel
theorem dX11_off_48 : decode cX11_off 48 = .ok (.iconst 1, 1) := by decide +kernel
theorem dX11_off_49 : decode cX11_off 49 = .ok (.invokevirtual 256, 3) := by decide +kernel
theorem dX11_off_52 : decode cX11_off 52 = .ok (.aload_n 0, 1) := by decide +kernel
theorem dX11_off_53 : decode cX11_off 53 = .ok (.aload_n 0, 1) := by decide +kernel
theorem dX11_off_54 : decode cX11_off 54 = .ok (.getfield 19, 3) := by decide +kernel
theorem dX11_off_57 : decode cX11_off 57 = .ok (.iconst 0, 1) := by decide +kernel
theorem dX11_off_58 : decode cX11_off 58 = .ok (.iconst 0, 1) := by decide +kernel
theorem dX11_off_59 : decode cX11_off 59 = .ok (.iconst 1, 1) := by decide +kernel
theorem dX11_off_60 : decode cX11_off 60 = .ok (.invokevirtual 256, 3) := by decide +kernel
theorem dX11_off_63 : decode cX11_off 63 = .ok (.isub, 1) := by decide +kernel
theorem dX11_off_64 : decode cX11_off 64 = .ok (.invokestatic 279, 3) := by decide +kernel
theorem dX11_off_67 : decode cX11_off 67 = .ok (.iadd, 1) := by decide +kernel
theorem dX11_off_68 : decode cX11_off 68 = .ok (.ireturn, 1) := by decide +kernel
theorem bX11_off_0 {G : GX} {h : mH} {Q : mO → mH → Prop} (hi : Iv h) (K : WM G jX11_roundOf [.ref 83, .ref 87, .int 0] (pI h 83 0 0) (Aft G jX11_off 11 [some (.ref 83), none] [] Q)) : Vw G jX11_off 0 [some (.ref 83), none] [] h Q :=
  s_aload_n dX11_off_0 rfl (s_iconst 0 dX11_off_1 (by decide) (s_putI dX11_off_2 flX11_113 ff10_0 rfl (hi.sh rfl rfl) (s_aload_n dX11_off_5 rfl (s_aload_n dX11_off_6 rfl (s_getR (v := .ref 87) dX11_off_7 flX11_19 rfl (hi.sh rfl rfl) (hi.rf (o := 83) (k := 6) (d := 4) rfl rfl) (s_iconst 0 dX11_off_10 (by decide) (s_callV (As := [.ref 87, .int 0]) dX11_off_11 rfl lvX11_275 ⟨Nat.le_of_ble_eq_true rfl, Nat.le_of_ble_eq_true rfl⟩ (hi.sh rfl rfl) ⟨_, _, by decide, rfl⟩ rfl (Nat.le_of_ble_eq_true rfl) (K))))))))
theorem bX11_off_14 {G : GX} {h : mH} {Q : mO → mH → Prop} {vs0 : Int32} (hi : Iv h) (K : WM G jX11_penOf [.ref 83, .ref 87, .int 0, .int vs0, .int 0] h (Aft G jX11_off 23 [some (.ref 83), some (.int vs0)] [] Q)) : Vw G jX11_off 14 [some (.ref 83), none] [.int vs0] h Q :=
  s_istore_n dX11_off_14 (Nat.le_of_ble_eq_true rfl) rfl (s_aload_n dX11_off_15 rfl (s_aload_n dX11_off_16 rfl (s_getR (v := .ref 87) dX11_off_17 flX11_19 rfl (hi.sh rfl rfl) (hi.rf (o := 83) (k := 6) (d := 4) rfl rfl) (s_iconst 0 dX11_off_20 (by decide) (s_iload_n dX11_off_21 rfl (s_iconst 0 dX11_off_22 (by decide) (s_callV (As := [.ref 87, .int 0, .int vs0, .int 0]) dX11_off_23 rfl lvX11_256 ⟨Nat.le_of_ble_eq_true rfl, Nat.le_of_ble_eq_true rfl⟩ (hi.sh rfl rfl) ⟨_, _, by decide, rfl⟩ rfl (Nat.le_of_ble_eq_true rfl) (K))))))))
theorem bX11_off_26 {G : GX} {h : mH} {Q : mO → mH → Prop} {v1 : Int32} {vs0 : Int32} (hi : Iv h) (K : WM G jX11_penOf [.ref 83, .ref 87, .int 0, .int 0, .int 0] h (Aft G jX11_off 34 [some (.ref 83), some (.int v1)] [.int vs0] Q)) : Vw G jX11_off 26 [some (.ref 83), some (.int v1)] [.int vs0] h Q :=
  s_aload_n dX11_off_26 rfl (s_aload_n dX11_off_27 rfl (s_getR (v := .ref 87) dX11_off_28 flX11_19 rfl (hi.sh rfl rfl) (hi.rf (o := 83) (k := 6) (d := 4) rfl rfl) (s_iconst 0 dX11_off_31 (by decide) (s_iconst 0 dX11_off_32 (by decide) (s_iconst 0 dX11_off_33 (by decide) (s_callV (As := [.ref 87, .int 0, .int 0, .int 0]) dX11_off_34 rfl lvX11_256 ⟨Nat.le_of_ble_eq_true rfl, Nat.le_of_ble_eq_true rfl⟩ (hi.sh rfl rfl) ⟨_, _, by decide, rfl⟩ rfl (Nat.le_of_ble_eq_true rfl) (K)))))))
theorem bX11_off_37 {G : GX} {h : mH} {Q : mO → mH → Prop} {v1 : Int32} {vs0 : Int32} {vs1 : Int32} (hi : Iv h) (K : WM G jX11_penOf [.ref 83, .ref 87, .int 0, .int v1, .int 1] h (Aft G jX11_off 49 [some (.ref 83), none] [.int (fX11_size (vs1 - vs0))] Q)) : Vw G jX11_off 37 [some (.ref 83), some (.int v1)] [.int vs0, .int vs1] h Q :=
  s_isub dX11_off_37 (s_callS (As := [.int (vs1 - vs0)]) dX11_off_38 rfl lsX11_279 ⟨Nat.le_of_ble_eq_true rfl, Nat.le_of_ble_eq_true rfl⟩ rfl (Nat.le_of_ble_eq_true rfl) (mX11_size   (s_aload_n dX11_off_41 rfl (s_aload_n dX11_off_42 rfl (s_getR (v := .ref 87) dX11_off_43 flX11_19 rfl (hi.sh rfl rfl) (hi.rf (o := 83) (k := 6) (d := 4) rfl rfl) (s_iconst 0 dX11_off_46 (by decide) (s_iload_n dX11_off_47 rfl (s_iconst 1 dX11_off_48 (by decide) (Vw.mask [true, false] (s_callV (As := [.ref 87, .int 0, .int v1, .int 1]) dX11_off_49 rfl lvX11_256 ⟨Nat.le_of_ble_eq_true rfl, Nat.le_of_ble_eq_true rfl⟩ (hi.sh rfl rfl) ⟨_, _, by decide, rfl⟩ rfl (Nat.le_of_ble_eq_true rfl) (K)))))))))))
theorem bX11_off_52 {G : GX} {h : mH} {Q : mO → mH → Prop} {vs0 : Int32} {vs1 : Int32} (hi : Iv h) (K : WM G jX11_penOf [.ref 83, .ref 87, .int 0, .int 0, .int 1] h (Aft G jX11_off 60 [none, none] [.int vs0, .int vs1] Q)) : Vw G jX11_off 52 [some (.ref 83), none] [.int vs0, .int vs1] h Q :=
  s_aload_n dX11_off_52 rfl (s_aload_n dX11_off_53 rfl (s_getR (v := .ref 87) dX11_off_54 flX11_19 rfl (hi.sh rfl rfl) (hi.rf (o := 83) (k := 6) (d := 4) rfl rfl) (s_iconst 0 dX11_off_57 (by decide) (s_iconst 0 dX11_off_58 (by decide) (s_iconst 1 dX11_off_59 (by decide) (Vw.mask [false, false] (s_callV (As := [.ref 87, .int 0, .int 0, .int 1]) dX11_off_60 rfl lvX11_256 ⟨Nat.le_of_ble_eq_true rfl, Nat.le_of_ble_eq_true rfl⟩ (hi.sh rfl rfl) ⟨_, _, by decide, rfl⟩ rfl (Nat.le_of_ble_eq_true rfl) (K))))))))
theorem bX11_off_63 {G : GX} {h : mH} {Q : mO → mH → Prop} {vs0 : Int32} {vs1 : Int32} {vs2 : Int32} (hi : Iv h) (K : Q (.inl (some (.int (vs2 + (fX11_size (vs1 - vs0)))))) h) : Vw G jX11_off 63 [none, none] [.int vs0, .int vs1, .int vs2] h Q :=
  s_isub dX11_off_63 (s_callS (As := [.int (vs1 - vs0)]) dX11_off_64 rfl lsX11_279 ⟨Nat.le_of_ble_eq_true rfl, Nat.le_of_ble_eq_true rfl⟩ rfl (Nat.le_of_ble_eq_true rfl) (mX11_size   (s_iadd dX11_off_67 (s_ireturn dX11_off_68 rfl K))))
theorem eX11_off {G : GX} {h : mH} {Q : mO → mH → Prop} (hi : Iv h) (K : WM G jX11_roundOf [.ref 83, .ref 87, .int 0] (pI h 83 0 0) (Aft G jX11_off 11 [some (.ref 83), none] [] Q)) : WM G jX11_off [.ref 83] h Q :=
  WM.body (ls := [some (.ref 83), none]) rfl (by decide +kernel) rfl (Nat.le_of_ble_eq_true rfl) rfl ((bX11_off_0 hi  K))
theorem dX11_isPortrait_0 : decode cX11_isPortrait 0 = .ok (.aload_n 0, 1) := by decide +kernel
theorem dX11_isPortrait_1 : decode cX11_isPortrait 1 = .ok (.iload_n 1, 1) := by decide +kernel
theorem dX11_isPortrait_2 : decode cX11_isPortrait 2 = .ok (.ifCond .lt 15, 3) := by decide +kernel
theorem dX11_isPortrait_5 : decode cX11_isPortrait 5 = .ok (.iload_n 1, 1) := by decide +kernel
theorem dX11_isPortrait_6 : decode cX11_isPortrait 6 = .ok (.aload_n 0, 1) := by decide +kernel
theorem dX11_isPortrait_7 : decode cX11_isPortrait 7 = .ok (.getfield 226, 3) := by decide +kernel
theorem dX11_isPortrait_10 : decode cX11_isPortrait 10 = .ok (.if_icmp .ge 7, 3) := by decide +kernel
theorem dX11_isPortrait_13 : decode cX11_isPortrait 13 = .ok (.iconst 1, 1) := by decide +kernel
theorem dX11_isPortrait_14 : decode cX11_isPortrait 14 = .ok (.goto 4, 3) := by decide +kernel
theorem dX11_isPortrait_17 : decode cX11_isPortrait 17 = .ok (.iconst 0, 1) := by decide +kernel
theorem dX11_isPortrait_18 : decode cX11_isPortrait 18 = .ok (.iconst 1, 1) := by decide +kernel
theorem dX11_isPortrait_19 : decode cX11_isPortrait 19 = .ok (.invokevirtual 209, 3) := by decide +kernel
theorem dX11_isPortrait_22 : decode cX11_isPortrait 22 = .ok (.ireturn, 1) := by decide +kernel
theorem bX11_isPortrait_0 {G : GX} {h : mH} {Q : mO → mH → Prop} {v1 : Int32} (hi : Iv h) (K : (v1 < 0 → WM G jX11_right [.ref 83, .int 0, .int 1] h (Aft G jX11_isPortrait 19 [none, none] [] Q)) ∧ (¬ v1 < 0 → (((gI h 83 30) ≤ v1 → WM G jX11_right [.ref 83, .int 0, .int 1] h (Aft G jX11_isPortrait 19 [none, none] [] Q)) ∧ (¬ (gI h 83 30) ≤ v1 → WM G jX11_right [.ref 83, .int 1, .int 1] h (Aft G jX11_isPortrait 19 [none, none] [] Q))))) : Vw G jX11_isPortrait 0 [some (.ref 83), some (.int v1)] [] h Q :=
  s_aload_n dX11_isPortrait_0 rfl (s_iload_n dX11_isPortrait_1 rfl (s_if_lt 17 dX11_isPortrait_2 rfl (fun q2 => s_iconst 0 dX11_isPortrait_17 (by decide) (s_iconst 1 dX11_isPortrait_18 (by decide) (Vw.mask [false, false] (s_callV (As := [.int 0, .int 1]) dX11_isPortrait_19 rfl lvX11_209 ⟨Nat.le_of_ble_eq_true rfl, Nat.le_of_ble_eq_true rfl⟩ (hi.sh rfl rfl) ⟨_, _, by decide, rfl⟩ rfl (Nat.le_of_ble_eq_true rfl) ((K.1 q2)))))) (fun q2 => s_iload_n dX11_isPortrait_5 rfl (s_aload_n dX11_isPortrait_6 rfl (s_getI dX11_isPortrait_7 flX11_226 (Or.inl rfl) (hi.sh rfl rfl) (s_icmp_ge 17 dX11_isPortrait_10 rfl (fun q6 => s_iconst 0 dX11_isPortrait_17 (by decide) (s_iconst 1 dX11_isPortrait_18 (by decide) (Vw.mask [false, false] (s_callV (As := [.int 0, .int 1]) dX11_isPortrait_19 rfl lvX11_209 ⟨Nat.le_of_ble_eq_true rfl, Nat.le_of_ble_eq_true rfl⟩ (hi.sh rfl rfl) ⟨_, _, by decide, rfl⟩ rfl (Nat.le_of_ble_eq_true rfl) (((K.2 q2).1 q6)))))) (fun q6 => s_iconst 1 dX11_isPortrait_13 (by decide) (s_goto 18 dX11_isPortrait_14 rfl (s_iconst 1 dX11_isPortrait_18 (by decide) (Vw.mask [false, false] (s_callV (As := [.int 1, .int 1]) dX11_isPortrait_19 rfl lvX11_209 ⟨Nat.le_of_ble_eq_true rfl, Nat.le_of_ble_eq_true rfl⟩ (hi.sh rfl rfl) ⟨_, _, by decide, rfl⟩ rfl (Nat.le_of_ble_eq_true rfl) (((K.2 q2).2 q6)))))))))))))
theorem bX11_isPortrait_22 {G : GX} {h : mH} {Q : mO → mH → Prop} {vs0 : Int32} (hi : Iv h) (K : (vs0 = 0 ∨ vs0 = 1) ∧ Q (.inl (some (.int vs0))) h) : Vw G jX11_isPortrait 22 [none, none] [.int vs0] h Q :=
  s_zreturn dX11_isPortrait_22 rfl K.1 K.2
theorem eX11_isPortrait {G : GX} {h : mH} {Q : mO → mH → Prop} {v1 : Int32} (hi : Iv h) (K : (v1 < 0 → WM G jX11_right [.ref 83, .int 0, .int 1] h (Aft G jX11_isPortrait 19 [none, none] [] Q)) ∧ (¬ v1 < 0 → (((gI h 83 30) ≤ v1 → WM G jX11_right [.ref 83, .int 0, .int 1] h (Aft G jX11_isPortrait 19 [none, none] [] Q)) ∧ (¬ (gI h 83 30) ≤ v1 → WM G jX11_right [.ref 83, .int 1, .int 1] h (Aft G jX11_isPortrait 19 [none, none] [] Q))))) : WM G jX11_isPortrait [.ref 83, .int v1] h Q :=
  WM.body (ls := [some (.ref 83), some (.int v1)]) rfl (by decide +kernel) rfl (Nat.le_of_ble_eq_true rfl) rfl ((bX11_isPortrait_0 hi  K))
theorem dX11_keep_0 : decode cX11_keep 0 = .ok (.aload_n 0, 1) := by decide +kernel
theorem dX11_keep_1 : decode cX11_keep 1 = .ok (.iconst 0, 1) := by decide +kernel
theorem dX11_keep_2 : decode cX11_keep 2 = .ok (.putfield 113, 3) := by decide +kernel
theorem dX11_keep_5 : decode cX11_keep 5 = .ok (.aload_n 0, 1) := by decide +kernel
theorem dX11_keep_6 : decode cX11_keep 6 = .ok (.getfield 226, 3) := by decide +kernel
theorem dX11_keep_9 : decode cX11_keep 9 = .ok (.bipush 8, 2) := by decide +kernel
theorem dX11_keep_11 : decode cX11_keep 11 = .ok (.if_icmp .ne 9, 3) := by decide +kernel
theorem dX11_keep_14 : decode cX11_keep 14 = .ok (.aload_n 0, 1) := by decide +kernel
theorem dX11_keep_15 : decode cX11_keep 15 = .ok (.iconst 2, 1) := by decide +kernel
theorem dX11_keep_16 : decode cX11_keep 16 = .ok (.invokevirtual 249, 3) := by decide +kernel
theorem dX11_keep_19 : decode cX11_keep 19 = .ok (.ireturn, 1) := by decide +kernel
theorem dX11_keep_20 : decode cX11_keep 20 = .ok (.iconst 0, 1) := by decide +kernel
theorem dX11_keep_21 : decode cX11_keep 21 = .ok (.istore_n 1, 1) := by decide +kernel
theorem dX11_keep_22 : decode cX11_keep 22 = .ok (.iload_n 1, 1) := by decide +kernel
theorem dX11_keep_23 : decode cX11_keep 23 = .ok (.bipush 12, 2) := by decide +kernel
theorem dX11_keep_25 : decode cX11_keep 25 = .ok (.if_icmp .ge 29, 3) := by decide +kernel
theorem dX11_keep_28 : decode cX11_keep 28 = .ok (.aload_n 0, 1) := by decide +kernel
theorem dX11_keep_29 : decode cX11_keep 29 = .ok (.getfield 53, 3) := by decide +kernel
theorem dX11_keep_32 : decode cX11_keep 32 = .ok (.bipush 12, 2) := by decide +kernel
theorem dX11_keep_34 : decode cX11_keep 34 = .ok (.aload_n 0, 1) := by decide +kernel
theorem dX11_keep_35 : decode cX11_keep 35 = .ok (.getfield 226, 3) := by decide +kernel
theorem dX11_keep_38 : decode cX11_keep 38 = .ok (.imul, 1) := by decide +kernel
theorem dX11_keep_39 : decode cX11_keep 39 = .ok (.iload_n 1, 1) := by decide +kernel
theorem dX11_keep_40 : decode cX11_keep 40 = .ok (.iadd, 1) := by decide +kernel
theorem dX11_keep_41 : decode cX11_keep 41 = .ok (.aload_n 0, 1) := by decide +kernel
theorem dX11_keep_42 : decode cX11_keep 42 = .ok (.getfield 19, 3) := by decide +kernel
theorem dX11_keep_45 : decode cX11_keep 45 = .ok (.iload_n 1, 1) := by decide +kernel
theorem dX11_keep_46 : decode cX11_keep 46 = .ok (.iaload, 1) := by decide +kernel
theorem dX11_keep_47 : decode cX11_keep 47 = .ok (.iastore, 1) := by decide +kernel
theorem dX11_keep_48 : decode cX11_keep 48 = .ok (.iinc 1 1, 3) := by decide +kernel
theorem dX11_keep_51 : decode cX11_keep 51 = .ok (.goto (-29), 3) := by decide +kernel
theorem dX11_keep_54 : decode cX11_keep 54 = .ok (.aload_n 0, 1) := by decide +kernel
theorem dX11_keep_55 : decode cX11_keep 55 = .ok (.dup, 1) := by decide +kernel
theorem dX11_keep_56 : decode cX11_keep 56 = .ok (.getfield 226, 3) := by decide +kernel
theorem dX11_keep_59 : decode cX11_keep 59 = .ok (.iconst 1, 1) := by decide +kernel
theorem dX11_keep_60 : decode cX11_keep 60 = .ok (.iadd, 1) := by decide +kernel
theorem dX11_keep_61 : decode cX11_keep 61 = .ok (.putfield 226, 3) := by decide +kernel
theorem dX11_keep_64 : decode cX11_keep 64 = .ok (.aload_n 0, 1) := by decide +kernel
theorem dX11_keep_65 : decode cX11_keep 65 = .ok (.getfield 226, 3) := by decide +kernel
theorem dX11_keep_68 : decode cX11_keep 68 = .ok (.iconst 1, 1) := by decide +kernel
theorem dX11_keep_69 : decode cX11_keep 69 = .ok (.isub, 1) := by decide +kernel
theorem dX11_keep_70 : decode cX11_keep 70 = .ok (.ireturn, 1) := by decide +kernel
theorem bX11_keep_0 {G : GX} {h : mH} {Q : mO → mH → Prop} (hi : Iv h) (K : (¬ (gI (pI h 83 0 0) 83 30) = 8 → Vw G jX11_keep 22 [some (.ref 83), some (.int 0)] [] (pI h 83 0 0) Q) ∧ ((gI (pI h 83 0 0) 83 30) = 8 → WM G jX11_refuses [.ref 83, .int 2] (pI h 83 0 0) (Aft G jX11_keep 16 [none, none] [] Q))) : Vw G jX11_keep 0 [some (.ref 83), none] [] h Q :=
  s_aload_n dX11_keep_0 rfl (s_iconst 0 dX11_keep_1 (by decide) (s_putI dX11_keep_2 flX11_113 ff10_0 rfl (hi.sh rfl rfl) (s_aload_n dX11_keep_5 rfl (s_getI dX11_keep_6 flX11_226 (Or.inl rfl) (hi.sh rfl rfl) (s_bipush 8 dX11_keep_9 (by decide) (s_icmp_ne 20 dX11_keep_11 rfl (fun q6 => s_iconst 0 dX11_keep_20 (by decide) (s_istore_n dX11_keep_21 (Nat.le_of_ble_eq_true rfl) rfl ((K.1 q6)))) (fun q6 => s_aload_n dX11_keep_14 rfl (s_iconst 2 dX11_keep_15 (by decide) (Vw.mask [false, false] (s_callV (As := [.int 2]) dX11_keep_16 rfl lvX11_249 ⟨Nat.le_of_ble_eq_true rfl, Nat.le_of_ble_eq_true rfl⟩ (hi.sh rfl rfl) ⟨_, _, by decide, rfl⟩ rfl (Nat.le_of_ble_eq_true rfl) ((K.2 q6))))))))))))
theorem bX11_keep_19 {G : GX} {h : mH} {Q : mO → mH → Prop} {vs0 : Int32} (hi : Iv h) (K : Q (.inl (some (.int vs0))) h) : Vw G jX11_keep 19 [none, none] [.int vs0] h Q :=
  s_ireturn dX11_keep_19 rfl K
theorem bX11_keep_22 {G : GX} {h : mH} {Q : mO → mH → Prop} {v1 : Int32} (hi : Iv h) (K : (12 ≤ v1 → Q (.inl (some (.int ((gI (pI h 83 30 ((gI h 83 30) + 1)) 83 30) - 1)))) (pI h 83 30 ((gI h 83 30) + 1))) ∧ (¬ 12 ≤ v1 → (vp_in v1 12 ∧ (vp_in ((12 * (gI h 83 30)) + v1) 96 ∧ Vw G jX11_keep 22 [some (.ref 83), some (.int (v1 + 1))] [] (pI h 97 (Int32.toNatClampNeg ((12 * (gI h 83 30)) + v1)) (gI h 87 (Int32.toNatClampNeg v1))) Q)))) : Vw G jX11_keep 22 [some (.ref 83), some (.int v1)] [] h Q :=
  s_iload_n dX11_keep_22 rfl (s_bipush 12 dX11_keep_23 (by decide) (s_icmp_ge 54 dX11_keep_25 rfl (fun q2 => s_aload_n dX11_keep_54 rfl (s_dupr dX11_keep_55 (s_getI dX11_keep_56 flX11_226 (Or.inl rfl) (hi.sh rfl rfl) (s_iconst 1 dX11_keep_59 (by decide) (s_iadd dX11_keep_60 (s_putI dX11_keep_61 flX11_226 ff10_30 rfl (hi.sh rfl rfl) (s_aload_n dX11_keep_64 rfl (s_getI dX11_keep_65 flX11_226 (Or.inl rfl) (hi.sh rfl rfl) (s_iconst 1 dX11_keep_68 (by decide) (s_isub dX11_keep_69 (s_ireturn dX11_keep_70 rfl (K.1 q2)))))))))))) (fun q2 => s_aload_n dX11_keep_28 rfl (s_getR (v := .ref 97) dX11_keep_29 flX11_53 rfl (hi.sh rfl rfl) (hi.rf (o := 83) (k := 31) (d := 14) rfl rfl) (s_bipush 12 dX11_keep_32 (by decide) (s_aload_n dX11_keep_34 rfl (s_getI dX11_keep_35 flX11_226 (Or.inl rfl) (hi.sh rfl rfl) (s_imul dX11_keep_38 (s_iload_n dX11_keep_39 rfl (s_iadd dX11_keep_40 (s_aload_n dX11_keep_41 rfl (s_getR (v := .ref 87) dX11_keep_42 flX11_19 rfl (hi.sh rfl rfl) (hi.rf (o := 83) (k := 6) (d := 4) rfl rfl) (s_iload_n dX11_keep_45 rfl (s_iaload dX11_keep_46 (hi.sh rfl rfl) (K.2 q2).1 (s_iastore dX11_keep_47 (hi.sh rfl rfl) (K.2 q2).2.1 (s_iinc 1 dX11_keep_48 rfl (by decide) (Nat.le_of_ble_eq_true rfl) rfl (s_goto 22 dX11_keep_51 rfl ((K.2 q2).2.2))))))))))))))))))
theorem eX11_keep {G : GX} {h : mH} {Q : mO → mH → Prop} (hi : Iv h) (K : (¬ (gI (pI h 83 0 0) 83 30) = 8 → Vw G jX11_keep 22 [some (.ref 83), some (.int 0)] [] (pI h 83 0 0) Q) ∧ ((gI (pI h 83 0 0) 83 30) = 8 → WM G jX11_refuses [.ref 83, .int 2] (pI h 83 0 0) (Aft G jX11_keep 16 [none, none] [] Q))) : WM G jX11_keep [.ref 83] h Q :=
  WM.body (ls := [some (.ref 83), none]) rfl (by decide +kernel) rfl (Nat.le_of_ble_eq_true rfl) rfl ((bX11_keep_0 hi  K))
theorem dX11_take_0 : decode cX11_take 0 = .ok (.aload_n 0, 1) := by decide +kernel
theorem dX11_take_1 : decode cX11_take 1 = .ok (.iconst 0, 1) := by decide +kernel
theorem dX11_take_2 : decode cX11_take 2 = .ok (.putfield 113, 3) := by decide +kernel
theorem dX11_take_5 : decode cX11_take 5 = .ok (.aload_n 0, 1) := by decide +kernel
theorem dX11_take_6 : decode cX11_take 6 = .ok (.iload_n 1, 1) := by decide +kernel
theorem dX11_take_7 : decode cX11_take 7 = .ok (.invokevirtual 282, 3) := by decide +kernel
theorem dX11_take_10 : decode cX11_take 10 = .ok (.ifCond .ne 4, 3) := by decide +kernel
theorem dX11_take_13 : decode cX11_take 13 = .ok (.return_, 1) := by decide +kernel
theorem dX11_take_14 : decode cX11_take 14 = .ok (.iconst 0, 1) := by decide +kernel
theorem dX11_take_15 : decode cX11_take 15 = .ok (.istore_n 2, 1) := by decide +kernel
theorem dX11_take_16 : decode cX11_take 16 = .ok (.iload_n 2, 1) := by decide +kernel
theorem dX11_take_17 : decode cX11_take 17 = .ok (.bipush 12, 2) := by decide +kernel
theorem dX11_take_19 : decode cX11_take 19 = .ok (.if_icmp .ge 26, 3) := by decide +kernel
theorem dX11_take_22 : decode cX11_take 22 = .ok (.aload_n 0, 1) := by decide +kernel
theorem dX11_take_23 : decode cX11_take 23 = .ok (.getfield 19, 3) := by decide +kernel
theorem dX11_take_26 : decode cX11_take 26 = .ok (.iload_n 2, 1) := by decide +kernel
theorem dX11_take_27 : decode cX11_take 27 = .ok (.aload_n 0, 1) := by decide +kernel
theorem dX11_take_28 : decode cX11_take 28 = .ok (.getfield 53, 3) := by decide +kernel
theorem dX11_take_31 : decode cX11_take 31 = .ok (.bipush 12, 2) := by decide +kernel
theorem dX11_take_33 : decode cX11_take 33 = .ok (.iload_n 1, 1) := by decide +kernel
theorem dX11_take_34 : decode cX11_take 34 = .ok (.imul, 1) := by decide +kernel
theorem dX11_take_35 : decode cX11_take 35 = .ok (.iload_n 2, 1) := by decide +kernel
theorem dX11_take_36 : decode cX11_take 36 = .ok (.iadd, 1) := by decide +kernel
theorem dX11_take_37 : decode cX11_take 37 = .ok (.iaload, 1) := by decide +kernel
theorem dX11_take_38 : decode cX11_take 38 = .ok (.iastore, 1) := by decide +kernel
theorem dX11_take_39 : decode cX11_take 39 = .ok (.iinc 2 1, 3) := by decide +kernel
theorem dX11_take_42 : decode cX11_take 42 = .ok (.goto (-26), 3) := by decide +kernel
theorem dX11_take_45 : decode cX11_take 45 = .ok (.return_, 1) := by decide +kernel
theorem bX11_take_0 {G : GX} {h : mH} {Q : mO → mH → Prop} {v1 : Int32} (hi : Iv h) (K : WM G jX11_isPortrait [.ref 83, .int v1] (pI h 83 0 0) (Aft G jX11_take 7 [some (.ref 83), some (.int v1), none] [] Q)) : Vw G jX11_take 0 [some (.ref 83), some (.int v1), none] [] h Q :=
  s_aload_n dX11_take_0 rfl (s_iconst 0 dX11_take_1 (by decide) (s_putI dX11_take_2 flX11_113 ff10_0 rfl (hi.sh rfl rfl) (s_aload_n dX11_take_5 rfl (s_iload_n dX11_take_6 rfl (s_callV (As := [.int v1]) dX11_take_7 rfl lvX11_282 ⟨Nat.le_of_ble_eq_true rfl, Nat.le_of_ble_eq_true rfl⟩ (hi.sh rfl rfl) ⟨_, _, by decide, rfl⟩ rfl (Nat.le_of_ble_eq_true rfl) (K))))))
theorem bX11_take_10 {G : GX} {h : mH} {Q : mO → mH → Prop} {v1 : Int32} {vs0 : Int32} (hi : Iv h) (K : (¬ vs0 = 0 → Vw G jX11_take 16 [some (.ref 83), some (.int v1), some (.int 0)] [] h Q) ∧ (vs0 = 0 → Q (.inl none) h)) : Vw G jX11_take 10 [some (.ref 83), some (.int v1), none] [.int vs0] h Q :=
  s_if_ne 14 dX11_take_10 rfl (fun q0 => s_iconst 0 dX11_take_14 (by decide) (s_istore_n dX11_take_15 (Nat.le_of_ble_eq_true rfl) rfl ((K.1 q0)))) (fun q0 => s_return dX11_take_13 rfl (K.2 q0))
theorem bX11_take_16 {G : GX} {h : mH} {Q : mO → mH → Prop} {v1 : Int32} {v2 : Int32} (hi : Iv h) (K : (12 ≤ v2 → Q (.inl none) h) ∧ (¬ 12 ≤ v2 → (vp_in ((12 * v1) + v2) 96 ∧ (vp_in v2 12 ∧ Vw G jX11_take 16 [some (.ref 83), some (.int v1), some (.int (v2 + 1))] [] (pI h 87 (Int32.toNatClampNeg v2) (gI h 97 (Int32.toNatClampNeg ((12 * v1) + v2)))) Q)))) : Vw G jX11_take 16 [some (.ref 83), some (.int v1), some (.int v2)] [] h Q :=
  s_iload_n dX11_take_16 rfl (s_bipush 12 dX11_take_17 (by decide) (s_icmp_ge 45 dX11_take_19 rfl (fun q2 => s_return dX11_take_45 rfl (K.1 q2)) (fun q2 => s_aload_n dX11_take_22 rfl (s_getR (v := .ref 87) dX11_take_23 flX11_19 rfl (hi.sh rfl rfl) (hi.rf (o := 83) (k := 6) (d := 4) rfl rfl) (s_iload_n dX11_take_26 rfl (s_aload_n dX11_take_27 rfl (s_getR (v := .ref 97) dX11_take_28 flX11_53 rfl (hi.sh rfl rfl) (hi.rf (o := 83) (k := 31) (d := 14) rfl rfl) (s_bipush 12 dX11_take_31 (by decide) (s_iload_n dX11_take_33 rfl (s_imul dX11_take_34 (s_iload_n dX11_take_35 rfl (s_iadd dX11_take_36 (s_iaload dX11_take_37 (hi.sh rfl rfl) (K.2 q2).1 (s_iastore dX11_take_38 (hi.sh rfl rfl) (K.2 q2).2.1 (s_iinc 1 dX11_take_39 rfl (by decide) (Nat.le_of_ble_eq_true rfl) rfl (s_goto 16 dX11_take_42 rfl ((K.2 q2).2.2)))))))))))))))))
theorem eX11_take {G : GX} {h : mH} {Q : mO → mH → Prop} {v1 : Int32} (hi : Iv h) (K : WM G jX11_isPortrait [.ref 83, .int v1] (pI h 83 0 0) (Aft G jX11_take 7 [some (.ref 83), some (.int v1), none] [] Q)) : WM G jX11_take [.ref 83, .int v1] h Q :=
  WM.body (ls := [some (.ref 83), some (.int v1), none]) rfl (by decide +kernel) rfl (Nat.le_of_ble_eq_true rfl) rfl ((bX11_take_0 hi  K))
theorem dX11_sizeOf_0 : decode cX11_sizeOf 0 = .ok (.aload_n 0, 1) := by decide +kernel
theorem dX11_sizeOf_1 : decode cX11_sizeOf 1 = .ok (.getfield 53, 3) := by decide +kernel
theorem dX11_sizeOf_4 : decode cX11_sizeOf 4 = .ok (.bipush 12, 2) := by decide +kernel
theorem dX11_sizeOf_6 : decode cX11_sizeOf 6 = .ok (.iload_n 1, 1) := by decide +kernel
theorem dX11_sizeOf_7 : decode cX11_sizeOf 7 = .ok (.imul, 1) := by decide +kernel
theorem dX11_sizeOf_8 : decode cX11_sizeOf 8 = .ok (.bipush 8, 2) := by decide +kernel
theorem dX11_sizeOf_10 : decode cX11_sizeOf 10 = .ok (.iadd, 1) := by decide +kernel
theorem dX11_sizeOf_11 : decode cX11_sizeOf 11 = .ok (.iload_n 2, 1) := by decide +kernel
theorem dX11_sizeOf_12 : decode cX11_sizeOf 12 = .ok (.iadd, 1) := by decide +kernel
theorem dX11_sizeOf_13 : decode cX11_sizeOf 13 = .ok (.iaload, 1) := by decide +kernel
theorem dX11_sizeOf_14 : decode cX11_sizeOf 14 = .ok (.ireturn, 1) := by decide +kernel
theorem bX11_sizeOf_0 {G : GX} {h : mH} {Q : mO → mH → Prop} {v1 : Int32} {v2 : Int32} (hi : Iv h) (K : vp_in (((12 * v1) + 8) + v2) 96 ∧ Q (.inl (some (.int (gI h 97 (Int32.toNatClampNeg (((12 * v1) + 8) + v2)))))) h) : Vw G jX11_sizeOf 0 [some (.ref 83), some (.int v1), some (.int v2)] [] h Q :=
  s_aload_n dX11_sizeOf_0 rfl (s_getR (v := .ref 97) dX11_sizeOf_1 flX11_53 rfl (hi.sh rfl rfl) (hi.rf (o := 83) (k := 31) (d := 14) rfl rfl) (s_bipush 12 dX11_sizeOf_4 (by decide) (s_iload_n dX11_sizeOf_6 rfl (s_imul dX11_sizeOf_7 (s_bipush 8 dX11_sizeOf_8 (by decide) (s_iadd dX11_sizeOf_10 (s_iload_n dX11_sizeOf_11 rfl (s_iadd dX11_sizeOf_12 (s_iaload dX11_sizeOf_13 (hi.sh rfl rfl) K.1 (s_ireturn dX11_sizeOf_14 rfl K.2))))))))))
theorem eX11_sizeOf {G : GX} {h : mH} {Q : mO → mH → Prop} {v1 : Int32} {v2 : Int32} (hi : Iv h) (K : vp_in (((12 * v1) + 8) + v2) 96 ∧ Q (.inl (some (.int (gI h 97 (Int32.toNatClampNeg (((12 * v1) + 8) + v2)))))) h) : WM G jX11_sizeOf [.ref 83, .int v1, .int v2] h Q :=
  WM.body (ls := [some (.ref 83), some (.int v1), some (.int v2)]) rfl (by decide +kernel) rfl (Nat.le_of_ble_eq_true rfl) rfl ((bX11_sizeOf_0 hi  K))
theorem dX11_isWay_0 : decode cX11_isWay 0 = .ok (.iconst (-1), 1) := by decide +kernel
theorem dX11_isWay_1 : decode cX11_isWay 1 = .ok (.istore 4, 2) := by decide +kernel
theorem dX11_isWay_3 : decode cX11_isWay 3 = .ok (.iconst 0, 1) := by decide +kernel
theorem dX11_isWay_4 : decode cX11_isWay 4 = .ok (.istore 5, 2) := by decide +kernel
theorem dX11_isWay_6 : decode cX11_isWay 6 = .ok (.iload 5, 2) := by decide +kernel
theorem dX11_isWay_8 : decode cX11_isWay 8 = .ok (.iconst 4, 1) := by decide +kernel
theorem dX11_isWay_9 : decode cX11_isWay 9 = .ok (.if_icmp .ge 164, 3) := by decide +kernel
theorem dX11_isWay_12 : decode cX11_isWay 12 = .ok (.iload 5, 2) := by decide +kernel
theorem dX11_isWay_14 : decode cX11_isWay 14 = .ok (.iload_n 3, 1) := by decide +kernel
theorem dX11_isWay_15 : decode cX11_isWay 15 = .ok (.invokestatic 285, 3) := by decide +kernel
theorem dX11_isWay_18 : decode cX11_isWay 18 = .ok (.istore 6, 2) := by decide +kernel
theorem dX11_isWay_20 : decode cX11_isWay 20 = .ok (.aload_n 0, 1) := by decide +kernel
theorem dX11_isWay_21 : decode cX11_isWay 21 = .ok (.iload_n 1, 1) := by decide +kernel
theorem dX11_isWay_22 : decode cX11_isWay 22 = .ok (.iload 5, 2) := by decide +kernel
theorem dX11_isWay_24 : decode cX11_isWay 24 = .ok (.invokevirtual 288, 3) := by decide +kernel
theorem dX11_isWay_27 : decode cX11_isWay 27 = .ok (.ifCond .le 7, 3) := by decide +kernel
theorem dX11_isWay_30 : decode cX11_isWay 30 = .ok (.iconst 1, 1) := by decide +kernel
theorem dX11_isWay_31 : decode cX11_isWay 31 = .ok (.goto 4, 3) := by decide +kernel
theorem dX11_isWay_34 : decode cX11_isWay 34 = .ok (.iconst 0, 1) := by decide +kernel
theorem dX11_isWay_35 : decode cX11_isWay 35 = .ok (.aload_n 0, 1) := by decide +kernel
theorem dX11_isWay_36 : decode cX11_isWay 36 = .ok (.iload_n 2, 1) := by decide +kernel
theorem dX11_isWay_37 : decode cX11_isWay 37 = .ok (.iload 6, 2) := by decide +kernel
theorem dX11_isWay_39 : decode cX11_isWay 39 = .ok (.invokevirtual 288, 3) := by decide +kernel
theorem dX11_isWay_42 : decode cX11_isWay 42 = .ok (.ifCond .le 7, 3) := by decide +kernel
theorem dX11_isWay_45 : decode cX11_isWay 45 = .ok (.iconst 1, 1) := by decide +kernel
theorem dX11_isWay_46 : decode cX11_isWay 46 = .ok (.goto 4, 3) := by decide +kernel
theorem dX11_isWay_49 : decode cX11_isWay 49 = .ok (.iconst 0, 1) := by decide +kernel
theorem dX11_isWay_50 : decode cX11_isWay 50 = .ok (.if_icmp .eq 5, 3) := by decide +kernel
theorem dX11_isWay_53 : decode cX11_isWay 53 = .ok (.iconst 0, 1) := by decide +kernel
theorem dX11_isWay_54 : decode cX11_isWay 54 = .ok (.ireturn, 1) := by decide +kernel
theorem dX11_isWay_55 : decode cX11_isWay 55 = .ok (.aload_n 0, 1) := by decide +kernel
theorem dX11_isWay_56 : decode cX11_isWay 56 = .ok (.iload_n 1, 1) := by decide +kernel
theorem dX11_isWay_57 : decode cX11_isWay 57 = .ok (.iload 5, 2) := by decide +kernel
theorem dX11_isWay_59 : decode cX11_isWay 59 = .ok (.invokevirtual 288, 3) := by decide +kernel
theorem dX11_isWay_62 : decode cX11_isWay 62 = .ok (.ifCond .ne 6, 3) := by decide +kernel
theorem dX11_isWay_65 : decode cX11_isWay 65 = .ok (.goto 102, 3) := by decide +kernel
theorem dX11_isWay_68 : decode cX11_isWay 68 = .ok (.aload_n 0, 1) := by decide +kernel
theorem dX11_isWay_69 : decode cX11_isWay 69 = .ok (.getfield 7, 3) := by decide +kernel
theorem dX11_isWay_72 : decode cX11_isWay 72 = .ok (.iload 5, 2) := by decide +kernel
theorem dX11_isWay_74 : decode cX11_isWay 74 = .ok (.iaload, 1) := by decide +kernel
theorem dX11_isWay_75 : decode cX11_isWay 75 = .ok (.aload_n 0, 1) := by decide +kernel
theorem dX11_isWay_76 : decode cX11_isWay 76 = .ok (.getfield 7, 3) := by decide +kernel
theorem dX11_isWay_79 : decode cX11_isWay 79 = .ok (.iload 6, 2) := by decide +kernel
theorem dX11_isWay_81 : decode cX11_isWay 81 = .ok (.iaload, 1) := by decide +kernel
theorem dX11_isWay_82 : decode cX11_isWay 82 = .ok (.if_icmp .ne 34, 3) := by decide +kernel
theorem dX11_isWay_85 : decode cX11_isWay 85 = .ok (.aload_n 0, 1) := by decide +kernel
theorem dX11_isWay_86 : decode cX11_isWay 86 = .ok (.aload_n 0, 1) := by decide +kernel
theorem dX11_isWay_87 : decode cX11_isWay 87 = .ok (.getfield 53, 3) := by decide +kernel
theorem dX11_isWay_90 : decode cX11_isWay 90 = .ok (.bipush 12, 2) := by decide +kernel
theorem dX11_isWay_92 : decode cX11_isWay 92 = .ok (.iload_n 1, 1) := by decide +kernel
theorem dX11_isWay_93 : decode cX11_isWay 93 = .ok (.imul, 1) := by decide +kernel
theorem dX11_isWay_94 : decode cX11_isWay 94 = .ok (.iload 5, 2) := by decide +kernel
theorem dX11_isWay_96 : decode cX11_isWay 96 = .ok (.invokevirtual 245, 3) := by decide +kernel
theorem dX11_isWay_99 : decode cX11_isWay 99 = .ok (.aload_n 0, 1) := by decide +kernel
theorem dX11_isWay_100 : decode cX11_isWay 100 = .ok (.aload_n 0, 1) := by decide +kernel
theorem dX11_isWay_101 : decode cX11_isWay 101 = .ok (.getfield 53, 3) := by decide +kernel
theorem dX11_isWay_104 : decode cX11_isWay 104 = .ok (.bipush 12, 2) := by decide +kernel
theorem dX11_isWay_106 : decode cX11_isWay 106 = .ok (.iload_n 2, 1) := by decide +kernel
theorem dX11_isWay_107 : decode cX11_isWay 107 = .ok (.imul, 1) := by decide +kernel
theorem dX11_isWay_108 : decode cX11_isWay 108 = .ok (.iload 6, 2) := by decide +kernel
theorem dX11_isWay_110 : decode cX11_isWay 110 = .ok (.invokevirtual 245, 3) := by decide +kernel
theorem dX11_isWay_113 : decode cX11_isWay 113 = .ok (.if_icmp .eq 5, 3) := by decide +kernel
theorem dX11_isWay_116 : decode cX11_isWay 116 = .ok (.iconst 0, 1) := by decide +kernel
theorem dX11_isWay_117 : decode cX11_isWay 117 = .ok (.ireturn, 1) := by decide +kernel
theorem dX11_isWay_118 : decode cX11_isWay 118 = .ok (.iload 4, 2) := by decide +kernel
theorem dX11_isWay_120 : decode cX11_isWay 120 = .ok (.iconst (-1), 1) := by decide +kernel
theorem dX11_isWay_121 : decode cX11_isWay 121 = .ok (.if_icmp .ne 7, 3) := by decide +kernel
theorem dX11_isWay_124 : decode cX11_isWay 124 = .ok (.iload 5, 2) := by decide +kernel
theorem dX11_isWay_126 : decode cX11_isWay 126 = .ok (.istore 4, 2) := by decide +kernel
theorem dX11_isWay_128 : decode cX11_isWay 128 = .ok (.aload_n 0, 1) := by decide +kernel
theorem dX11_isWay_129 : decode cX11_isWay 129 = .ok (.iload_n 2, 1) := by decide +kernel
theorem dX11_isWay_130 : decode cX11_isWay 130 = .ok (.iload 6, 2) := by decide +kernel
theorem dX11_isWay_132 : decode cX11_isWay 132 = .ok (.invokevirtual 288, 3) := by decide +kernel
theorem dX11_isWay_135 : decode cX11_isWay 135 = .ok (.aload_n 0, 1) := by decide +kernel
theorem dX11_isWay_136 : decode cX11_isWay 136 = .ok (.iload_n 1, 1) := by decide +kernel
theorem dX11_isWay_137 : decode cX11_isWay 137 = .ok (.iload 4, 2) := by decide +kernel
theorem dX11_isWay_139 : decode cX11_isWay 139 = .ok (.invokevirtual 288, 3) := by decide +kernel
theorem dX11_isWay_142 : decode cX11_isWay 142 = .ok (.imul, 1) := by decide +kernel
theorem dX11_isWay_143 : decode cX11_isWay 143 = .ok (.aload_n 0, 1) := by decide +kernel
theorem dX11_isWay_144 : decode cX11_isWay 144 = .ok (.iload_n 2, 1) := by decide +kernel
theorem dX11_isWay_145 : decode cX11_isWay 145 = .ok (.iload 4, 2) := by decide +kernel
theorem dX11_isWay_147 : decode cX11_isWay 147 = .ok (.iload_n 3, 1) := by decide +kernel
theorem dX11_isWay_148 : decode cX11_isWay 148 = .ok (.invokestatic 285, 3) := by decide +kernel
theorem dX11_isWay_151 : decode cX11_isWay 151 = .ok (.invokevirtual 288, 3) := by decide +kernel
theorem dX11_isWay_154 : decode cX11_isWay 154 = .ok (.aload_n 0, 1) := by decide +kernel
theorem dX11_isWay_155 : decode cX11_isWay 155 = .ok (.iload_n 1, 1) := by decide +kernel
theorem dX11_isWay_156 : decode cX11_isWay 156 = .ok (.iload 5, 2) := by decide +kernel
theorem dX11_isWay_158 : decode cX11_isWay 158 = .ok (.invokevirtual 288, 3) := by decide +kernel
theorem dX11_isWay_161 : decode cX11_isWay 161 = .ok (.imul, 1) := by decide +kernel
theorem dX11_isWay_162 : decode cX11_isWay 162 = .ok (.if_icmp .eq 5, 3) := by decide +kernel
theorem dX11_isWay_165 : decode cX11_isWay 165 = .ok (.iconst 0, 1) := by decide +kernel
theorem dX11_isWay_166 : decode cX11_isWay 166 = .ok (.ireturn, 1) := by decide +kernel
theorem dX11_isWay_167 : decode cX11_isWay 167 = .ok (.iinc 5 1, 3) := by decide +kernel
theorem dX11_isWay_170 : decode cX11_isWay 170 = .ok (.goto (-164), 3) := by decide +kernel
theorem dX11_isWay_173 : decode cX11_isWay 173 = .ok (.iconst 1, 1) := by decide +kernel
theorem dX11_isWay_174 : decode cX11_isWay 174 = .ok (.ireturn, 1) := by decide +kernel
theorem bX11_isWay_0 {G : GX} {h : mH} {Q : mO → mH → Prop} {v1 : Int32} {v2 : Int32} {v3 : Int32} (hi : Iv h) (K : Vw G jX11_isWay 6 [some (.ref 83), some (.int v1), some (.int v2), some (.int v3), some (.int (-1)), some (.int 0), none] [] h Q) : Vw G jX11_isWay 0 [some (.ref 83), some (.int v1), some (.int v2), some (.int v3), none, none, none] [] h Q :=
  s_iconst (-1) dX11_isWay_0 (by decide) (s_istore dX11_isWay_1 (Nat.le_of_ble_eq_true rfl) rfl (s_iconst 0 dX11_isWay_3 (by decide) (s_istore dX11_isWay_4 (Nat.le_of_ble_eq_true rfl) rfl (K))))
theorem bX11_isWay_6 {G : GX} {h : mH} {Q : mO → mH → Prop} {v1 : Int32} {v2 : Int32} {v3 : Int32} {v4 : Int32} {v5 : Int32} (hi : Iv h) (K : (4 ≤ v5 → Q (.inl (some (.int 1))) h) ∧ (¬ 4 ≤ v5 → WM G jX11_sizeOf [.ref 83, .int v1, .int v5] h (Aft G jX11_isWay 24 [some (.ref 83), some (.int v1), some (.int v2), some (.int v3), some (.int v4), some (.int v5), some (.int (fX11_becomes v5 v3))] [] Q))) : Vw G jX11_isWay 6 [some (.ref 83), some (.int v1), some (.int v2), some (.int v3), some (.int v4), some (.int v5), none] [] h Q :=
  s_iload dX11_isWay_6 rfl (s_iconst 4 dX11_isWay_8 (by decide) (s_icmp_ge 173 dX11_isWay_9 rfl (fun q2 => s_iconst 1 dX11_isWay_173 (by decide) (s_zreturn dX11_isWay_174 rfl (by decide) (K.1 q2))) (fun q2 => s_iload dX11_isWay_12 rfl (s_iload_n dX11_isWay_14 rfl (s_callS (As := [.int v5, .int v3]) dX11_isWay_15 rfl lsX11_285 ⟨Nat.le_of_ble_eq_true rfl, Nat.le_of_ble_eq_true rfl⟩ rfl (Nat.le_of_ble_eq_true rfl) (mX11_becomes   (s_istore dX11_isWay_18 (Nat.le_of_ble_eq_true rfl) rfl (s_aload_n dX11_isWay_20 rfl (s_iload_n dX11_isWay_21 rfl (s_iload dX11_isWay_22 rfl (s_callV (As := [.int v1, .int v5]) dX11_isWay_24 rfl lvX11_288 ⟨Nat.le_of_ble_eq_true rfl, Nat.le_of_ble_eq_true rfl⟩ (hi.sh rfl rfl) ⟨_, _, by decide, rfl⟩ rfl (Nat.le_of_ble_eq_true rfl) ((K.2 q2)))))))))))))
theorem bX11_isWay_27 {G : GX} {h : mH} {Q : mO → mH → Prop} {v1 : Int32} {v2 : Int32} {v3 : Int32} {v4 : Int32} {v5 : Int32} {v6 : Int32} {vs0 : Int32} (hi : Iv h) (K : (vs0 ≤ 0 → WM G jX11_sizeOf [.ref 83, .int v2, .int v6] h (Aft G jX11_isWay 39 [some (.ref 83), some (.int v1), some (.int v2), some (.int v3), some (.int v4), some (.int v5), some (.int v6)] [.int 0] Q)) ∧ (¬ vs0 ≤ 0 → WM G jX11_sizeOf [.ref 83, .int v2, .int v6] h (Aft G jX11_isWay 39 [some (.ref 83), some (.int v1), some (.int v2), some (.int v3), some (.int v4), some (.int v5), some (.int v6)] [.int 1] Q))) : Vw G jX11_isWay 27 [some (.ref 83), some (.int v1), some (.int v2), some (.int v3), some (.int v4), some (.int v5), some (.int v6)] [.int vs0] h Q :=
  s_if_le 34 dX11_isWay_27 rfl (fun q0 => s_iconst 0 dX11_isWay_34 (by decide) (s_aload_n dX11_isWay_35 rfl (s_iload_n dX11_isWay_36 rfl (s_iload dX11_isWay_37 rfl (s_callV (As := [.int v2, .int v6]) dX11_isWay_39 rfl lvX11_288 ⟨Nat.le_of_ble_eq_true rfl, Nat.le_of_ble_eq_true rfl⟩ (hi.sh rfl rfl) ⟨_, _, by decide, rfl⟩ rfl (Nat.le_of_ble_eq_true rfl) ((K.1 q0))))))) (fun q0 => s_iconst 1 dX11_isWay_30 (by decide) (s_goto 35 dX11_isWay_31 rfl (s_aload_n dX11_isWay_35 rfl (s_iload_n dX11_isWay_36 rfl (s_iload dX11_isWay_37 rfl (s_callV (As := [.int v2, .int v6]) dX11_isWay_39 rfl lvX11_288 ⟨Nat.le_of_ble_eq_true rfl, Nat.le_of_ble_eq_true rfl⟩ (hi.sh rfl rfl) ⟨_, _, by decide, rfl⟩ rfl (Nat.le_of_ble_eq_true rfl) ((K.2 q0))))))))
theorem bX11_isWay_42 {G : GX} {h : mH} {Q : mO → mH → Prop} {v1 : Int32} {v2 : Int32} {v3 : Int32} {v4 : Int32} {v5 : Int32} {v6 : Int32} {vs0 : Int32} {vs1 : Int32} (hi : Iv h) (K : (vs0 ≤ 0 → ((vs1 = 0 → WM G jX11_sizeOf [.ref 83, .int v1, .int v5] h (Aft G jX11_isWay 59 [some (.ref 83), some (.int v1), some (.int v2), some (.int v3), some (.int v4), some (.int v5), some (.int v6)] [] Q)) ∧ (¬ vs1 = 0 → Q (.inl (some (.int 0))) h))) ∧ (¬ vs0 ≤ 0 → ((vs1 = 1 → WM G jX11_sizeOf [.ref 83, .int v1, .int v5] h (Aft G jX11_isWay 59 [some (.ref 83), some (.int v1), some (.int v2), some (.int v3), some (.int v4), some (.int v5), some (.int v6)] [] Q)) ∧ (¬ vs1 = 1 → Q (.inl (some (.int 0))) h)))) : Vw G jX11_isWay 42 [some (.ref 83), some (.int v1), some (.int v2), some (.int v3), some (.int v4), some (.int v5), some (.int v6)] [.int vs0, .int vs1] h Q :=
  s_if_le 49 dX11_isWay_42 rfl (fun q0 => s_iconst 0 dX11_isWay_49 (by decide) (s_icmp_eq 55 dX11_isWay_50 rfl (fun q2 => s_aload_n dX11_isWay_55 rfl (s_iload_n dX11_isWay_56 rfl (s_iload dX11_isWay_57 rfl (s_callV (As := [.int v1, .int v5]) dX11_isWay_59 rfl lvX11_288 ⟨Nat.le_of_ble_eq_true rfl, Nat.le_of_ble_eq_true rfl⟩ (hi.sh rfl rfl) ⟨_, _, by decide, rfl⟩ rfl (Nat.le_of_ble_eq_true rfl) (((K.1 q0).1 q2)))))) (fun q2 => s_iconst 0 dX11_isWay_53 (by decide) (s_zreturn dX11_isWay_54 rfl (by decide) ((K.1 q0).2 q2))))) (fun q0 => s_iconst 1 dX11_isWay_45 (by decide) (s_goto 50 dX11_isWay_46 rfl (s_icmp_eq 55 dX11_isWay_50 rfl (fun q3 => s_aload_n dX11_isWay_55 rfl (s_iload_n dX11_isWay_56 rfl (s_iload dX11_isWay_57 rfl (s_callV (As := [.int v1, .int v5]) dX11_isWay_59 rfl lvX11_288 ⟨Nat.le_of_ble_eq_true rfl, Nat.le_of_ble_eq_true rfl⟩ (hi.sh rfl rfl) ⟨_, _, by decide, rfl⟩ rfl (Nat.le_of_ble_eq_true rfl) (((K.2 q0).1 q3)))))) (fun q3 => s_iconst 0 dX11_isWay_53 (by decide) (s_zreturn dX11_isWay_54 rfl (by decide) ((K.2 q0).2 q3))))))
theorem bX11_isWay_62 {G : GX} {h : mH} {Q : mO → mH → Prop} {v1 : Int32} {v2 : Int32} {v3 : Int32} {v4 : Int32} {v5 : Int32} {v6 : Int32} {vs0 : Int32} (hi : Iv h) (K : (¬ vs0 = 0 → (vp_in v5 4 ∧ (vp_in v6 4 ∧ ((¬ (gI h 84 (Int32.toNatClampNeg v5)) = (gI h 84 (Int32.toNatClampNeg v6)) → Q (.inl (some (.int 0))) h) ∧ ((gI h 84 (Int32.toNatClampNeg v5)) = (gI h 84 (Int32.toNatClampNeg v6)) → WM G jX11_period [.ref 83, .ref 97, .int (12 * v1), .int v5] h (Aft G jX11_isWay 96 [some (.ref 83), some (.int v1), some (.int v2), some (.int v3), some (.int v4), some (.int v5), some (.int v6)] [] Q)))))) ∧ (vs0 = 0 → Vw G jX11_isWay 167 [some (.ref 83), some (.int v1), some (.int v2), some (.int v3), some (.int v4), some (.int v5), none] [] h Q)) : Vw G jX11_isWay 62 [some (.ref 83), some (.int v1), some (.int v2), some (.int v3), some (.int v4), some (.int v5), some (.int v6)] [.int vs0] h Q :=
  s_if_ne 68 dX11_isWay_62 rfl (fun q0 => s_aload_n dX11_isWay_68 rfl (s_getR (v := .ref 84) dX11_isWay_69 flX11_7 rfl (hi.sh rfl rfl) (hi.rf (o := 83) (k := 3) (d := 1) rfl rfl) (s_iload dX11_isWay_72 rfl (s_iaload dX11_isWay_74 (hi.sh rfl rfl) (K.1 q0).1 (s_aload_n dX11_isWay_75 rfl (s_getR (v := .ref 84) dX11_isWay_76 flX11_7 rfl (hi.sh rfl rfl) (hi.rf (o := 83) (k := 3) (d := 1) rfl rfl) (s_iload dX11_isWay_79 rfl (s_iaload dX11_isWay_81 (hi.sh rfl rfl) (K.1 q0).2.1 (s_icmp_ne 116 dX11_isWay_82 rfl (fun q9 => s_iconst 0 dX11_isWay_116 (by decide) (s_zreturn dX11_isWay_117 rfl (by decide) ((K.1 q0).2.2.1 q9))) (fun q9 => s_aload_n dX11_isWay_85 rfl (s_aload_n dX11_isWay_86 rfl (s_getR (v := .ref 97) dX11_isWay_87 flX11_53 rfl (hi.sh rfl rfl) (hi.rf (o := 83) (k := 31) (d := 14) rfl rfl) (s_bipush 12 dX11_isWay_90 (by decide) (s_iload_n dX11_isWay_92 rfl (s_imul dX11_isWay_93 (s_iload dX11_isWay_94 rfl (s_callV (As := [.ref 97, .int (12 * v1), .int v5]) dX11_isWay_96 rfl lvX11_245 ⟨Nat.le_of_ble_eq_true rfl, Nat.le_of_ble_eq_true rfl⟩ (hi.sh rfl rfl) ⟨_, _, by decide, rfl⟩ rfl (Nat.le_of_ble_eq_true rfl) (((K.1 q0).2.2.2 q9))))))))))))))))))) (fun q0 => s_goto 167 dX11_isWay_65 rfl (Vw.mask [true, true, true, true, true, true, false] ((K.2 q0))))
theorem bX11_isWay_99 {G : GX} {h : mH} {Q : mO → mH → Prop} {v1 : Int32} {v2 : Int32} {v3 : Int32} {v4 : Int32} {v5 : Int32} {v6 : Int32} {vs0 : Int32} (hi : Iv h) (K : WM G jX11_period [.ref 83, .ref 97, .int (12 * v2), .int v6] h (Aft G jX11_isWay 110 [some (.ref 83), some (.int v1), some (.int v2), some (.int v3), some (.int v4), some (.int v5), some (.int v6)] [.int vs0] Q)) : Vw G jX11_isWay 99 [some (.ref 83), some (.int v1), some (.int v2), some (.int v3), some (.int v4), some (.int v5), some (.int v6)] [.int vs0] h Q :=
  s_aload_n dX11_isWay_99 rfl (s_aload_n dX11_isWay_100 rfl (s_getR (v := .ref 97) dX11_isWay_101 flX11_53 rfl (hi.sh rfl rfl) (hi.rf (o := 83) (k := 31) (d := 14) rfl rfl) (s_bipush 12 dX11_isWay_104 (by decide) (s_iload_n dX11_isWay_106 rfl (s_imul dX11_isWay_107 (s_iload dX11_isWay_108 rfl (s_callV (As := [.ref 97, .int (12 * v2), .int v6]) dX11_isWay_110 rfl lvX11_245 ⟨Nat.le_of_ble_eq_true rfl, Nat.le_of_ble_eq_true rfl⟩ (hi.sh rfl rfl) ⟨_, _, by decide, rfl⟩ rfl (Nat.le_of_ble_eq_true rfl) (K))))))))
theorem bX11_isWay_113 {G : GX} {h : mH} {Q : mO → mH → Prop} {v1 : Int32} {v2 : Int32} {v3 : Int32} {v4 : Int32} {v5 : Int32} {v6 : Int32} {vs0 : Int32} {vs1 : Int32} (hi : Iv h) (K : (vs1 = vs0 → ((¬ v4 = (-1) → Vw G jX11_isWay 128 [some (.ref 83), some (.int v1), some (.int v2), some (.int v3), some (.int v4), some (.int v5), some (.int v6)] [] h Q) ∧ (v4 = (-1) → Vw G jX11_isWay 128 [some (.ref 83), some (.int v1), some (.int v2), some (.int v3), some (.int v5), some (.int v5), some (.int v6)] [] h Q))) ∧ (¬ vs1 = vs0 → Q (.inl (some (.int 0))) h)) : Vw G jX11_isWay 113 [some (.ref 83), some (.int v1), some (.int v2), some (.int v3), some (.int v4), some (.int v5), some (.int v6)] [.int vs0, .int vs1] h Q :=
  s_icmp_eq 118 dX11_isWay_113 rfl (fun q0 => s_iload dX11_isWay_118 rfl (s_iconst (-1) dX11_isWay_120 (by decide) (s_icmp_ne 128 dX11_isWay_121 rfl (fun q3 => ((K.1 q0).1 q3)) (fun q3 => s_iload dX11_isWay_124 rfl (s_istore dX11_isWay_126 (Nat.le_of_ble_eq_true rfl) rfl (((K.1 q0).2 q3))))))) (fun q0 => s_iconst 0 dX11_isWay_116 (by decide) (s_zreturn dX11_isWay_117 rfl (by decide) (K.2 q0)))
theorem bX11_isWay_128 {G : GX} {h : mH} {Q : mO → mH → Prop} {v1 : Int32} {v2 : Int32} {v3 : Int32} {v4 : Int32} {v5 : Int32} {v6 : Int32} (hi : Iv h) (K : WM G jX11_sizeOf [.ref 83, .int v2, .int v6] h (Aft G jX11_isWay 132 [some (.ref 83), some (.int v1), some (.int v2), some (.int v3), some (.int v4), some (.int v5), none] [] Q)) : Vw G jX11_isWay 128 [some (.ref 83), some (.int v1), some (.int v2), some (.int v3), some (.int v4), some (.int v5), some (.int v6)] [] h Q :=
  s_aload_n dX11_isWay_128 rfl (s_iload_n dX11_isWay_129 rfl (s_iload dX11_isWay_130 rfl (Vw.mask [true, true, true, true, true, true, false] (s_callV (As := [.int v2, .int v6]) dX11_isWay_132 rfl lvX11_288 ⟨Nat.le_of_ble_eq_true rfl, Nat.le_of_ble_eq_true rfl⟩ (hi.sh rfl rfl) ⟨_, _, by decide, rfl⟩ rfl (Nat.le_of_ble_eq_true rfl) (K)))))
theorem bX11_isWay_135 {G : GX} {h : mH} {Q : mO → mH → Prop} {v1 : Int32} {v2 : Int32} {v3 : Int32} {v4 : Int32} {v5 : Int32} {vs0 : Int32} (hi : Iv h) (K : WM G jX11_sizeOf [.ref 83, .int v1, .int v4] h (Aft G jX11_isWay 139 [some (.ref 83), some (.int v1), some (.int v2), some (.int v3), some (.int v4), some (.int v5), none] [.int vs0] Q)) : Vw G jX11_isWay 135 [some (.ref 83), some (.int v1), some (.int v2), some (.int v3), some (.int v4), some (.int v5), none] [.int vs0] h Q :=
  s_aload_n dX11_isWay_135 rfl (s_iload_n dX11_isWay_136 rfl (s_iload dX11_isWay_137 rfl (s_callV (As := [.int v1, .int v4]) dX11_isWay_139 rfl lvX11_288 ⟨Nat.le_of_ble_eq_true rfl, Nat.le_of_ble_eq_true rfl⟩ (hi.sh rfl rfl) ⟨_, _, by decide, rfl⟩ rfl (Nat.le_of_ble_eq_true rfl) (K))))
theorem bX11_isWay_142 {G : GX} {h : mH} {Q : mO → mH → Prop} {v1 : Int32} {v2 : Int32} {v3 : Int32} {v4 : Int32} {v5 : Int32} {vs0 : Int32} {vs1 : Int32} (hi : Iv h) (K : WM G jX11_sizeOf [.ref 83, .int v2, .int (fX11_becomes v4 v3)] h (Aft G jX11_isWay 151 [some (.ref 83), some (.int v1), some (.int v2), some (.int v3), some (.int v4), some (.int v5), none] [.int (vs1 * vs0)] Q)) : Vw G jX11_isWay 142 [some (.ref 83), some (.int v1), some (.int v2), some (.int v3), some (.int v4), some (.int v5), none] [.int vs0, .int vs1] h Q :=
  s_imul dX11_isWay_142 (s_aload_n dX11_isWay_143 rfl (s_iload_n dX11_isWay_144 rfl (s_iload dX11_isWay_145 rfl (s_iload_n dX11_isWay_147 rfl (s_callS (As := [.int v4, .int v3]) dX11_isWay_148 rfl lsX11_285 ⟨Nat.le_of_ble_eq_true rfl, Nat.le_of_ble_eq_true rfl⟩ rfl (Nat.le_of_ble_eq_true rfl) (mX11_becomes   (s_callV (As := [.int v2, .int (fX11_becomes v4 v3)]) dX11_isWay_151 rfl lvX11_288 ⟨Nat.le_of_ble_eq_true rfl, Nat.le_of_ble_eq_true rfl⟩ (hi.sh rfl rfl) ⟨_, _, by decide, rfl⟩ rfl (Nat.le_of_ble_eq_true rfl) (K))))))))
theorem bX11_isWay_154 {G : GX} {h : mH} {Q : mO → mH → Prop} {v1 : Int32} {v2 : Int32} {v3 : Int32} {v4 : Int32} {v5 : Int32} {vs0 : Int32} {vs1 : Int32} (hi : Iv h) (K : WM G jX11_sizeOf [.ref 83, .int v1, .int v5] h (Aft G jX11_isWay 158 [some (.ref 83), some (.int v1), some (.int v2), some (.int v3), some (.int v4), some (.int v5), none] [.int vs0, .int vs1] Q)) : Vw G jX11_isWay 154 [some (.ref 83), some (.int v1), some (.int v2), some (.int v3), some (.int v4), some (.int v5), none] [.int vs0, .int vs1] h Q :=
  s_aload_n dX11_isWay_154 rfl (s_iload_n dX11_isWay_155 rfl (s_iload dX11_isWay_156 rfl (s_callV (As := [.int v1, .int v5]) dX11_isWay_158 rfl lvX11_288 ⟨Nat.le_of_ble_eq_true rfl, Nat.le_of_ble_eq_true rfl⟩ (hi.sh rfl rfl) ⟨_, _, by decide, rfl⟩ rfl (Nat.le_of_ble_eq_true rfl) (K))))
theorem bX11_isWay_161 {G : GX} {h : mH} {Q : mO → mH → Prop} {v1 : Int32} {v2 : Int32} {v3 : Int32} {v4 : Int32} {v5 : Int32} {vs0 : Int32} {vs1 : Int32} {vs2 : Int32} (hi : Iv h) (K : (vs2 = (vs1 * vs0) → Vw G jX11_isWay 167 [some (.ref 83), some (.int v1), some (.int v2), some (.int v3), some (.int v4), some (.int v5), none] [] h Q) ∧ (¬ vs2 = (vs1 * vs0) → Q (.inl (some (.int 0))) h)) : Vw G jX11_isWay 161 [some (.ref 83), some (.int v1), some (.int v2), some (.int v3), some (.int v4), some (.int v5), none] [.int vs0, .int vs1, .int vs2] h Q :=
  s_imul dX11_isWay_161 (s_icmp_eq 167 dX11_isWay_162 rfl (fun q1 => (K.1 q1)) (fun q1 => s_iconst 0 dX11_isWay_165 (by decide) (s_zreturn dX11_isWay_166 rfl (by decide) (K.2 q1))))
theorem bX11_isWay_167 {G : GX} {h : mH} {Q : mO → mH → Prop} {v1 : Int32} {v2 : Int32} {v3 : Int32} {v4 : Int32} {v5 : Int32} (hi : Iv h) (K : Vw G jX11_isWay 6 [some (.ref 83), some (.int v1), some (.int v2), some (.int v3), some (.int v4), some (.int (v5 + 1)), none] [] h Q) : Vw G jX11_isWay 167 [some (.ref 83), some (.int v1), some (.int v2), some (.int v3), some (.int v4), some (.int v5), none] [] h Q :=
  s_iinc 1 dX11_isWay_167 rfl (by decide) (Nat.le_of_ble_eq_true rfl) rfl (s_goto 6 dX11_isWay_170 rfl (K))
theorem eX11_isWay {G : GX} {h : mH} {Q : mO → mH → Prop} {v1 : Int32} {v2 : Int32} {v3 : Int32} (hi : Iv h) (K : Vw G jX11_isWay 6 [some (.ref 83), some (.int v1), some (.int v2), some (.int v3), some (.int (-1)), some (.int 0), none] [] h Q) : WM G jX11_isWay [.ref 83, .int v1, .int v2, .int v3] h Q :=
  WM.body (ls := [some (.ref 83), some (.int v1), some (.int v2), some (.int v3), none, none, none]) rfl (by decide +kernel) rfl (Nat.le_of_ble_eq_true rfl) rfl ((bX11_isWay_0 hi  K))
theorem dX11_isTime_0 : decode cX11_isTime 0 = .ok (.iconst 0, 1) := by decide +kernel
theorem dX11_isTime_1 : decode cX11_isTime 1 = .ok (.istore 6, 2) := by decide +kernel
theorem dX11_isTime_3 : decode cX11_isTime 3 = .ok (.iload 6, 2) := by decide +kernel
theorem dX11_isTime_5 : decode cX11_isTime 5 = .ok (.iconst 4, 1) := by decide +kernel
theorem dX11_isTime_6 : decode cX11_isTime 6 = .ok (.if_icmp .ge 141, 3) := by decide +kernel
theorem dX11_isTime_9 : decode cX11_isTime 9 = .ok (.aload_n 0, 1) := by decide +kernel
theorem dX11_isTime_10 : decode cX11_isTime 10 = .ok (.iload_n 1, 1) := by decide +kernel
theorem dX11_isTime_11 : decode cX11_isTime 11 = .ok (.iload 6, 2) := by decide +kernel
theorem dX11_isTime_13 : decode cX11_isTime 13 = .ok (.invokevirtual 288, 3) := by decide +kernel
theorem dX11_isTime_16 : decode cX11_isTime 16 = .ok (.ifCond .ne 6, 3) := by decide +kernel
theorem dX11_isTime_19 : decode cX11_isTime 19 = .ok (.goto 122, 3) := by decide +kernel
theorem dX11_isTime_22 : decode cX11_isTime 22 = .ok (.iload 6, 2) := by decide +kernel
theorem dX11_isTime_24 : decode cX11_isTime 24 = .ok (.iload_n 3, 1) := by decide +kernel
theorem dX11_isTime_25 : decode cX11_isTime 25 = .ok (.invokestatic 285, 3) := by decide +kernel
theorem dX11_isTime_28 : decode cX11_isTime 28 = .ok (.istore 7, 2) := by decide +kernel
theorem dX11_isTime_30 : decode cX11_isTime 30 = .ok (.aload_n 0, 1) := by decide +kernel
theorem dX11_isTime_31 : decode cX11_isTime 31 = .ok (.aload_n 0, 1) := by decide +kernel
theorem dX11_isTime_32 : decode cX11_isTime 32 = .ok (.getfield 53, 3) := by decide +kernel
theorem dX11_isTime_35 : decode cX11_isTime 35 = .ok (.bipush 12, 2) := by decide +kernel
theorem dX11_isTime_37 : decode cX11_isTime 37 = .ok (.iload_n 1, 1) := by decide +kernel
theorem dX11_isTime_38 : decode cX11_isTime 38 = .ok (.imul, 1) := by decide +kernel
theorem dX11_isTime_39 : decode cX11_isTime 39 = .ok (.iload 6, 2) := by decide +kernel
theorem dX11_isTime_41 : decode cX11_isTime 41 = .ok (.invokevirtual 245, 3) := by decide +kernel
theorem dX11_isTime_44 : decode cX11_isTime 44 = .ok (.istore 8, 2) := by decide +kernel
theorem dX11_isTime_46 : decode cX11_isTime 46 = .ok (.iload 5, 2) := by decide +kernel
theorem dX11_isTime_48 : decode cX11_isTime 48 = .ok (.iload 7, 2) := by decide +kernel
theorem dX11_isTime_50 : decode cX11_isTime 50 = .ok (.iconst 2, 1) := by decide +kernel
theorem dX11_isTime_51 : decode cX11_isTime 51 = .ok (.idiv, 1) := by decide +kernel
theorem dX11_isTime_52 : decode cX11_isTime 52 = .ok (.ishr, 1) := by decide +kernel
theorem dX11_isTime_53 : decode cX11_isTime 53 = .ok (.iconst 1, 1) := by decide +kernel
theorem dX11_isTime_54 : decode cX11_isTime 54 = .ok (.iand, 1) := by decide +kernel
theorem dX11_isTime_55 : decode cX11_isTime 55 = .ok (.iconst 1, 1) := by decide +kernel
theorem dX11_isTime_56 : decode cX11_isTime 56 = .ok (.if_icmp .ne 7, 3) := by decide +kernel
theorem dX11_isTime_59 : decode cX11_isTime 59 = .ok (.iconst 1, 1) := by decide +kernel
theorem dX11_isTime_60 : decode cX11_isTime 60 = .ok (.goto 4, 3) := by decide +kernel
theorem dX11_isTime_63 : decode cX11_isTime 63 = .ok (.iconst 0, 1) := by decide +kernel
theorem dX11_isTime_64 : decode cX11_isTime 64 = .ok (.istore 9, 2) := by decide +kernel
theorem dX11_isTime_66 : decode cX11_isTime 66 = .ok (.iload 9, 2) := by decide +kernel
theorem dX11_isTime_68 : decode cX11_isTime 68 = .ok (.ifCond .eq 13, 3) := by decide +kernel
theorem dX11_isTime_71 : decode cX11_isTime 71 = .ok (.iload 8, 2) := by decide +kernel
theorem dX11_isTime_73 : decode cX11_isTime 73 = .ok (.iconst 2, 1) := by decide +kernel
theorem dX11_isTime_74 : decode cX11_isTime 74 = .ok (.irem, 1) := by decide +kernel
theorem dX11_isTime_75 : decode cX11_isTime 75 = .ok (.iconst 1, 1) := by decide +kernel
theorem dX11_isTime_76 : decode cX11_isTime 76 = .ok (.if_icmp .ne 5, 3) := by decide +kernel
theorem dX11_isTime_79 : decode cX11_isTime 79 = .ok (.iconst 0, 1) := by decide +kernel
theorem dX11_isTime_80 : decode cX11_isTime 80 = .ok (.ireturn, 1) := by decide +kernel
theorem dX11_isTime_81 : decode cX11_isTime 81 = .ok (.aload_n 0, 1) := by decide +kernel
theorem dX11_isTime_82 : decode cX11_isTime 82 = .ok (.getfield 53, 3) := by decide +kernel
theorem dX11_isTime_85 : decode cX11_isTime 85 = .ok (.bipush 12, 2) := by decide +kernel
theorem dX11_isTime_87 : decode cX11_isTime 87 = .ok (.iload_n 1, 1) := by decide +kernel
theorem dX11_isTime_88 : decode cX11_isTime 88 = .ok (.imul, 1) := by decide +kernel
theorem dX11_isTime_89 : decode cX11_isTime 89 = .ok (.iconst 4, 1) := by decide +kernel
theorem dX11_isTime_90 : decode cX11_isTime 90 = .ok (.iadd, 1) := by decide +kernel
theorem dX11_isTime_91 : decode cX11_isTime 91 = .ok (.iload 6, 2) := by decide +kernel
theorem dX11_isTime_93 : decode cX11_isTime 93 = .ok (.iadd, 1) := by decide +kernel
theorem dX11_isTime_94 : decode cX11_isTime 94 = .ok (.iaload, 1) := by decide +kernel
theorem dX11_isTime_95 : decode cX11_isTime 95 = .ok (.iload 4, 2) := by decide +kernel
theorem dX11_isTime_97 : decode cX11_isTime 97 = .ok (.iadd, 1) := by decide +kernel
theorem dX11_isTime_98 : decode cX11_isTime 98 = .ok (.iload 9, 2) := by decide +kernel
theorem dX11_isTime_100 : decode cX11_isTime 100 = .ok (.ifCond .eq 10, 3) := by decide +kernel
theorem dX11_isTime_103 : decode cX11_isTime 103 = .ok (.iload 8, 2) := by decide +kernel
theorem dX11_isTime_105 : decode cX11_isTime 105 = .ok (.iconst 2, 1) := by decide +kernel
theorem dX11_isTime_106 : decode cX11_isTime 106 = .ok (.idiv, 1) := by decide +kernel
theorem dX11_isTime_107 : decode cX11_isTime 107 = .ok (.goto 4, 3) := by decide +kernel
theorem dX11_isTime_110 : decode cX11_isTime 110 = .ok (.iconst 0, 1) := by decide +kernel
theorem dX11_isTime_111 : decode cX11_isTime 111 = .ok (.iadd, 1) := by decide +kernel
theorem dX11_isTime_112 : decode cX11_isTime 112 = .ok (.istore 10, 2) := by decide +kernel
theorem dX11_isTime_114 : decode cX11_isTime 114 = .ok (.iload 10, 2) := by decide +kernel
theorem dX11_isTime_116 : decode cX11_isTime 116 = .ok (.iload 8, 2) := by decide +kernel
theorem dX11_isTime_118 : decode cX11_isTime 118 = .ok (.irem, 1) := by decide +kernel
theorem dX11_isTime_119 : decode cX11_isTime 119 = .ok (.aload_n 0, 1) := by decide +kernel
theorem dX11_isTime_120 : decode cX11_isTime 120 = .ok (.getfield 53, 3) := by decide +kernel
theorem dX11_isTime_123 : decode cX11_isTime 123 = .ok (.bipush 12, 2) := by decide +kernel
theorem dX11_isTime_125 : decode cX11_isTime 125 = .ok (.iload_n 2, 1) := by decide +kernel
theorem dX11_isTime_126 : decode cX11_isTime 126 = .ok (.imul, 1) := by decide +kernel
theorem dX11_isTime_127 : decode cX11_isTime 127 = .ok (.iconst 4, 1) := by decide +kernel
theorem dX11_isTime_128 : decode cX11_isTime 128 = .ok (.iadd, 1) := by decide +kernel
theorem dX11_isTime_129 : decode cX11_isTime 129 = .ok (.iload 7, 2) := by decide +kernel
theorem dX11_isTime_131 : decode cX11_isTime 131 = .ok (.iadd, 1) := by decide +kernel
theorem dX11_isTime_132 : decode cX11_isTime 132 = .ok (.iaload, 1) := by decide +kernel
theorem dX11_isTime_133 : decode cX11_isTime 133 = .ok (.iload 8, 2) := by decide +kernel
theorem dX11_isTime_135 : decode cX11_isTime 135 = .ok (.irem, 1) := by decide +kernel
theorem dX11_isTime_136 : decode cX11_isTime 136 = .ok (.if_icmp .eq 5, 3) := by decide +kernel
theorem dX11_isTime_139 : decode cX11_isTime 139 = .ok (.iconst 0, 1) := by decide +kernel
theorem dX11_isTime_140 : decode cX11_isTime 140 = .ok (.ireturn, 1) := by decide +kernel
theorem dX11_isTime_141 : decode cX11_isTime 141 = .ok (.iinc 6 1, 3) := by decide +kernel
theorem dX11_isTime_144 : decode cX11_isTime 144 = .ok (.goto (-141), 3) := by decide +kernel
theorem dX11_isTime_147 : decode cX11_isTime 147 = .ok (.iconst 1, 1) := by decide +kernel
theorem dX11_isTime_148 : decode cX11_isTime 148 = .ok (.ireturn, 1) := by decide +kernel
theorem bX11_isTime_0 {G : GX} {h : mH} {Q : mO → mH → Prop} {v1 : Int32} {v2 : Int32} {v3 : Int32} {v4 : Int32} {v5 : Int32} (hi : Iv h) (K : Vw G jX11_isTime 3 [some (.ref 83), some (.int v1), some (.int v2), some (.int v3), some (.int v4), some (.int v5), some (.int 0), none, none, none, none] [] h Q) : Vw G jX11_isTime 0 [some (.ref 83), some (.int v1), some (.int v2), some (.int v3), some (.int v4), some (.int v5), none, none, none, none, none] [] h Q :=
  s_iconst 0 dX11_isTime_0 (by decide) (s_istore dX11_isTime_1 (Nat.le_of_ble_eq_true rfl) rfl (K))
theorem bX11_isTime_3 {G : GX} {h : mH} {Q : mO → mH → Prop} {v1 : Int32} {v2 : Int32} {v3 : Int32} {v4 : Int32} {v5 : Int32} {v6 : Int32} (hi : Iv h) (K : (4 ≤ v6 → Q (.inl (some (.int 1))) h) ∧ (¬ 4 ≤ v6 → WM G jX11_sizeOf [.ref 83, .int v1, .int v6] h (Aft G jX11_isTime 13 [some (.ref 83), some (.int v1), some (.int v2), some (.int v3), some (.int v4), some (.int v5), some (.int v6), none, none, none, none] [] Q))) : Vw G jX11_isTime 3 [some (.ref 83), some (.int v1), some (.int v2), some (.int v3), some (.int v4), some (.int v5), some (.int v6), none, none, none, none] [] h Q :=
  s_iload dX11_isTime_3 rfl (s_iconst 4 dX11_isTime_5 (by decide) (s_icmp_ge 147 dX11_isTime_6 rfl (fun q2 => s_iconst 1 dX11_isTime_147 (by decide) (s_zreturn dX11_isTime_148 rfl (by decide) (K.1 q2))) (fun q2 => s_aload_n dX11_isTime_9 rfl (s_iload_n dX11_isTime_10 rfl (s_iload dX11_isTime_11 rfl (s_callV (As := [.int v1, .int v6]) dX11_isTime_13 rfl lvX11_288 ⟨Nat.le_of_ble_eq_true rfl, Nat.le_of_ble_eq_true rfl⟩ (hi.sh rfl rfl) ⟨_, _, by decide, rfl⟩ rfl (Nat.le_of_ble_eq_true rfl) ((K.2 q2))))))))
theorem bX11_isTime_16 {G : GX} {h : mH} {Q : mO → mH → Prop} {v1 : Int32} {v2 : Int32} {v3 : Int32} {v4 : Int32} {v5 : Int32} {v6 : Int32} {vs0 : Int32} (hi : Iv h) (K : (¬ vs0 = 0 → WM G jX11_period [.ref 83, .ref 97, .int (12 * v1), .int v6] h (Aft G jX11_isTime 41 [some (.ref 83), some (.int v1), some (.int v2), some (.int v3), some (.int v4), some (.int v5), some (.int v6), some (.int (fX11_becomes v6 v3)), none, none, none] [] Q)) ∧ (vs0 = 0 → Vw G jX11_isTime 141 [some (.ref 83), some (.int v1), some (.int v2), some (.int v3), some (.int v4), some (.int v5), some (.int v6), none, none, none, none] [] h Q)) : Vw G jX11_isTime 16 [some (.ref 83), some (.int v1), some (.int v2), some (.int v3), some (.int v4), some (.int v5), some (.int v6), none, none, none, none] [.int vs0] h Q :=
  s_if_ne 22 dX11_isTime_16 rfl (fun q0 => s_iload dX11_isTime_22 rfl (s_iload_n dX11_isTime_24 rfl (s_callS (As := [.int v6, .int v3]) dX11_isTime_25 rfl lsX11_285 ⟨Nat.le_of_ble_eq_true rfl, Nat.le_of_ble_eq_true rfl⟩ rfl (Nat.le_of_ble_eq_true rfl) (mX11_becomes   (s_istore dX11_isTime_28 (Nat.le_of_ble_eq_true rfl) rfl (s_aload_n dX11_isTime_30 rfl (s_aload_n dX11_isTime_31 rfl (s_getR (v := .ref 97) dX11_isTime_32 flX11_53 rfl (hi.sh rfl rfl) (hi.rf (o := 83) (k := 31) (d := 14) rfl rfl) (s_bipush 12 dX11_isTime_35 (by decide) (s_iload_n dX11_isTime_37 rfl (s_imul dX11_isTime_38 (s_iload dX11_isTime_39 rfl (s_callV (As := [.ref 97, .int (12 * v1), .int v6]) dX11_isTime_41 rfl lvX11_245 ⟨Nat.le_of_ble_eq_true rfl, Nat.le_of_ble_eq_true rfl⟩ (hi.sh rfl rfl) ⟨_, _, by decide, rfl⟩ rfl (Nat.le_of_ble_eq_true rfl) ((K.1 q0))))))))))))))) (fun q0 => s_goto 141 dX11_isTime_19 rfl ((K.2 q0)))
theorem bX11_isTime_44 {G : GX} {h : mH} {Q : mO → mH → Prop} {v1 : Int32} {v2 : Int32} {v3 : Int32} {v4 : Int32} {v5 : Int32} {v6 : Int32} {v7 : Int32} {vs0 : Int32} (hi : Iv h) (K : (¬ ((v5 >>> ((v7 / (2 : Int32)) &&& 31)) &&& (1 : Int32)) = 1 → Vw G jX11_isTime 81 [some (.ref 83), some (.int v1), some (.int v2), some (.int v3), some (.int v4), some (.int v5), some (.int v6), some (.int v7), some (.int vs0), some (.int 0), none] [] h Q) ∧ (((v5 >>> ((v7 / (2 : Int32)) &&& 31)) &&& (1 : Int32)) = 1 → ((¬ (vs0 - vs0 / (2 : Int32) * (2 : Int32)) = 1 → Vw G jX11_isTime 81 [some (.ref 83), some (.int v1), some (.int v2), some (.int v3), some (.int v4), some (.int v5), some (.int v6), some (.int v7), some (.int vs0), some (.int 1), none] [] h Q) ∧ ((vs0 - vs0 / (2 : Int32) * (2 : Int32)) = 1 → Q (.inl (some (.int 0))) h)))) : Vw G jX11_isTime 44 [some (.ref 83), some (.int v1), some (.int v2), some (.int v3), some (.int v4), some (.int v5), some (.int v6), some (.int v7), none, none, none] [.int vs0] h Q :=
  s_istore dX11_isTime_44 (Nat.le_of_ble_eq_true rfl) rfl (s_iload dX11_isTime_46 rfl (s_iload dX11_isTime_48 rfl (s_iconst 2 dX11_isTime_50 (by decide) (s_idiv dX11_isTime_51 (by decide) (s_ishr dX11_isTime_52 (s_iconst 1 dX11_isTime_53 (by decide) (s_iand dX11_isTime_54 (s_iconst 1 dX11_isTime_55 (by decide) (s_icmp_ne 63 dX11_isTime_56 rfl (fun q9 => s_iconst 0 dX11_isTime_63 (by decide) (s_istore dX11_isTime_64 (Nat.le_of_ble_eq_true rfl) rfl (s_iload dX11_isTime_66 rfl (s_if_eq 81 dX11_isTime_68 rfl (fun _ => (K.1 q9)) (fun q => absurd (by decide) q))))) (fun q9 => s_iconst 1 dX11_isTime_59 (by decide) (s_goto 64 dX11_isTime_60 rfl (s_istore dX11_isTime_64 (Nat.le_of_ble_eq_true rfl) rfl (s_iload dX11_isTime_66 rfl (s_if_eq 81 dX11_isTime_68 rfl (fun q => absurd q (by decide)) (fun _ => s_iload dX11_isTime_71 rfl (s_iconst 2 dX11_isTime_73 (by decide) (s_irem dX11_isTime_74 (by decide) (s_iconst 1 dX11_isTime_75 (by decide) (s_icmp_ne 81 dX11_isTime_76 rfl (fun q19 => ((K.2 q9).1 q19)) (fun q19 => s_iconst 0 dX11_isTime_79 (by decide) (s_zreturn dX11_isTime_80 rfl (by decide) ((K.2 q9).2 q19))))))))))))))))))))))
theorem bX11_isTime_81 {G : GX} {h : mH} {Q : mO → mH → Prop} {v1 : Int32} {v2 : Int32} {v3 : Int32} {v4 : Int32} {v5 : Int32} {v6 : Int32} {v7 : Int32} {v8 : Int32} {v9 : Int32} (hi : Iv h) (K : vp_in (((12 * v1) + 4) + v6) 96 ∧ ((v9 = 0 → (¬ v8 = 0 ∧ (vp_in (((12 * v2) + 4) + v7) 96 ∧ (¬ v8 = 0 ∧ ((((((gI h 97 (Int32.toNatClampNeg (((12 * v1) + 4) + v6))) + v4) + 0) - (((gI h 97 (Int32.toNatClampNeg (((12 * v1) + 4) + v6))) + v4) + 0) / v8 * v8) = ((gI h 97 (Int32.toNatClampNeg (((12 * v2) + 4) + v7))) - (gI h 97 (Int32.toNatClampNeg (((12 * v2) + 4) + v7))) / v8 * v8) → Vw G jX11_isTime 141 [some (.ref 83), some (.int v1), some (.int v2), some (.int v3), some (.int v4), some (.int v5), some (.int v6), none, none, none, none] [] h Q) ∧ (¬ ((((gI h 97 (Int32.toNatClampNeg (((12 * v1) + 4) + v6))) + v4) + 0) - (((gI h 97 (Int32.toNatClampNeg (((12 * v1) + 4) + v6))) + v4) + 0) / v8 * v8) = ((gI h 97 (Int32.toNatClampNeg (((12 * v2) + 4) + v7))) - (gI h 97 (Int32.toNatClampNeg (((12 * v2) + 4) + v7))) / v8 * v8) → Q (.inl (some (.int 0))) h)))))) ∧ (¬ v9 = 0 → (¬ v8 = 0 ∧ (vp_in (((12 * v2) + 4) + v7) 96 ∧ (¬ v8 = 0 ∧ ((((((gI h 97 (Int32.toNatClampNeg (((12 * v1) + 4) + v6))) + v4) + (v8 / (2 : Int32))) - (((gI h 97 (Int32.toNatClampNeg (((12 * v1) + 4) + v6))) + v4) + (v8 / (2 : Int32))) / v8 * v8) = ((gI h 97 (Int32.toNatClampNeg (((12 * v2) + 4) + v7))) - (gI h 97 (Int32.toNatClampNeg (((12 * v2) + 4) + v7))) / v8 * v8) → Vw G jX11_isTime 141 [some (.ref 83), some (.int v1), some (.int v2), some (.int v3), some (.int v4), some (.int v5), some (.int v6), none, none, none, none] [] h Q) ∧ (¬ ((((gI h 97 (Int32.toNatClampNeg (((12 * v1) + 4) + v6))) + v4) + (v8 / (2 : Int32))) - (((gI h 97 (Int32.toNatClampNeg (((12 * v1) + 4) + v6))) + v4) + (v8 / (2 : Int32))) / v8 * v8) = ((gI h 97 (Int32.toNatClampNeg (((12 * v2) + 4) + v7))) - (gI h 97 (Int32.toNatClampNeg (((12 * v2) + 4) + v7))) / v8 * v8) → Q (.inl (some (.int 0))) h)))))))) : Vw G jX11_isTime 81 [some (.ref 83), some (.int v1), some (.int v2), some (.int v3), some (.int v4), some (.int v5), some (.int v6), some (.int v7), some (.int v8), some (.int v9), none] [] h Q :=
  s_aload_n dX11_isTime_81 rfl (s_getR (v := .ref 97) dX11_isTime_82 flX11_53 rfl (hi.sh rfl rfl) (hi.rf (o := 83) (k := 31) (d := 14) rfl rfl) (s_bipush 12 dX11_isTime_85 (by decide) (s_iload_n dX11_isTime_87 rfl (s_imul dX11_isTime_88 (s_iconst 4 dX11_isTime_89 (by decide) (s_iadd dX11_isTime_90 (s_iload dX11_isTime_91 rfl (s_iadd dX11_isTime_93 (s_iaload dX11_isTime_94 (hi.sh rfl rfl) K.1 (s_iload dX11_isTime_95 rfl (s_iadd dX11_isTime_97 (s_iload dX11_isTime_98 rfl (s_if_eq 110 dX11_isTime_100 rfl (fun q13 => s_iconst 0 dX11_isTime_110 (by decide) (s_iadd dX11_isTime_111 (s_istore dX11_isTime_112 (Nat.le_of_ble_eq_true rfl) rfl (s_iload dX11_isTime_114 rfl (s_iload dX11_isTime_116 rfl (s_irem dX11_isTime_118 (K.2.1 q13).1 (s_aload_n dX11_isTime_119 rfl (s_getR (v := .ref 97) dX11_isTime_120 flX11_53 rfl (hi.sh rfl rfl) (hi.rf (o := 83) (k := 31) (d := 14) rfl rfl) (s_bipush 12 dX11_isTime_123 (by decide) (s_iload_n dX11_isTime_125 rfl (s_imul dX11_isTime_126 (s_iconst 4 dX11_isTime_127 (by decide) (s_iadd dX11_isTime_128 (s_iload dX11_isTime_129 rfl (s_iadd dX11_isTime_131 (s_iaload dX11_isTime_132 (hi.sh rfl rfl) (K.2.1 q13).2.1 (s_iload dX11_isTime_133 rfl (s_irem dX11_isTime_135 (K.2.1 q13).2.2.1 (s_icmp_eq 141 dX11_isTime_136 rfl (fun q32 => Vw.mask [true, true, true, true, true, true, true, false, false, false, false] (((K.2.1 q13).2.2.2.1 q32))) (fun q32 => s_iconst 0 dX11_isTime_139 (by decide) (s_zreturn dX11_isTime_140 rfl (by decide) ((K.2.1 q13).2.2.2.2 q32)))))))))))))))))))))) (fun q13 => s_iload dX11_isTime_103 rfl (s_iconst 2 dX11_isTime_105 (by decide) (s_idiv dX11_isTime_106 (by decide) (s_goto 111 dX11_isTime_107 rfl (s_iadd dX11_isTime_111 (s_istore dX11_isTime_112 (Nat.le_of_ble_eq_true rfl) rfl (s_iload dX11_isTime_114 rfl (s_iload dX11_isTime_116 rfl (s_irem dX11_isTime_118 (K.2.2 q13).1 (s_aload_n dX11_isTime_119 rfl (s_getR (v := .ref 97) dX11_isTime_120 flX11_53 rfl (hi.sh rfl rfl) (hi.rf (o := 83) (k := 31) (d := 14) rfl rfl) (s_bipush 12 dX11_isTime_123 (by decide) (s_iload_n dX11_isTime_125 rfl (s_imul dX11_isTime_126 (s_iconst 4 dX11_isTime_127 (by decide) (s_iadd dX11_isTime_128 (s_iload dX11_isTime_129 rfl (s_iadd dX11_isTime_131 (s_iaload dX11_isTime_132 (hi.sh rfl rfl) (K.2.2 q13).2.1 (s_iload dX11_isTime_133 rfl (s_irem dX11_isTime_135 (K.2.2 q13).2.2.1 (s_icmp_eq 141 dX11_isTime_136 rfl (fun q35 => Vw.mask [true, true, true, true, true, true, true, false, false, false, false] (((K.2.2 q13).2.2.2.1 q35))) (fun q35 => s_iconst 0 dX11_isTime_139 (by decide) (s_zreturn dX11_isTime_140 rfl (by decide) ((K.2.2 q13).2.2.2.2 q35))))))))))))))))))))))))))))))))))))))
theorem bX11_isTime_141 {G : GX} {h : mH} {Q : mO → mH → Prop} {v1 : Int32} {v2 : Int32} {v3 : Int32} {v4 : Int32} {v5 : Int32} {v6 : Int32} (hi : Iv h) (K : Vw G jX11_isTime 3 [some (.ref 83), some (.int v1), some (.int v2), some (.int v3), some (.int v4), some (.int v5), some (.int (v6 + 1)), none, none, none, none] [] h Q) : Vw G jX11_isTime 141 [some (.ref 83), some (.int v1), some (.int v2), some (.int v3), some (.int v4), some (.int v5), some (.int v6), none, none, none, none] [] h Q :=
  s_iinc 1 dX11_isTime_141 rfl (by decide) (Nat.le_of_ble_eq_true rfl) rfl (s_goto 3 dX11_isTime_144 rfl (K))
theorem eX11_isTime {G : GX} {h : mH} {Q : mO → mH → Prop} {v1 : Int32} {v2 : Int32} {v3 : Int32} {v4 : Int32} {v5 : Int32} (hi : Iv h) (K : Vw G jX11_isTime 3 [some (.ref 83), some (.int v1), some (.int v2), some (.int v3), some (.int v4), some (.int v5), some (.int 0), none, none, none, none] [] h Q) : WM G jX11_isTime [.ref 83, .int v1, .int v2, .int v3, .int v4, .int v5] h Q :=
  WM.body (ls := [some (.ref 83), some (.int v1), some (.int v2), some (.int v3), some (.int v4), some (.int v5), none, none, none, none, none]) rfl (by decide +kernel) rfl (Nat.le_of_ble_eq_true rfl) rfl ((bX11_isTime_0 hi  K))
theorem dX11_alikeOf_0 : decode cX11_alikeOf 0 = .ok (.aload_n 0, 1) := by decide +kernel
theorem dX11_alikeOf_1 : decode cX11_alikeOf 1 = .ok (.aload_n 0, 1) := by decide +kernel
theorem dX11_alikeOf_2 : decode cX11_alikeOf 2 = .ok (.getfield 53, 3) := by decide +kernel
theorem dX11_alikeOf_5 : decode cX11_alikeOf 5 = .ok (.bipush 12, 2) := by decide +kernel
theorem dX11_alikeOf_7 : decode cX11_alikeOf 7 = .ok (.iload_n 2, 1) := by decide +kernel
theorem dX11_alikeOf_8 : decode cX11_alikeOf 8 = .ok (.imul, 1) := by decide +kernel
theorem dX11_alikeOf_9 : decode cX11_alikeOf 9 = .ok (.invokevirtual 275, 3) := by decide +kernel
theorem dX11_alikeOf_12 : decode cX11_alikeOf 12 = .ok (.istore_n 3, 1) := by decide +kernel
theorem dX11_alikeOf_13 : decode cX11_alikeOf 13 = .ok (.iload_n 3, 1) := by decide +kernel
theorem dX11_alikeOf_14 : decode cX11_alikeOf 14 = .ok (.sipush 5040, 3) := by decide +kernel
theorem dX11_alikeOf_17 : decode cX11_alikeOf 17 = .ok (.if_icmp .le 6, 3) := by decide +kernel
theorem dX11_alikeOf_20 : decode cX11_alikeOf 20 = .ok (.bipush (-2), 2) := by decide +kernel
theorem dX11_alikeOf_22 : decode cX11_alikeOf 22 = .ok (.ireturn, 1) := by decide +kernel
theorem dX11_alikeOf_23 : decode cX11_alikeOf 23 = .ok (.iconst 0, 1) := by decide +kernel
theorem dX11_alikeOf_24 : decode cX11_alikeOf 24 = .ok (.istore 4, 2) := by decide +kernel
theorem dX11_alikeOf_26 : decode cX11_alikeOf 26 = .ok (.iload 4, 2) := by decide +kernel
theorem dX11_alikeOf_28 : decode cX11_alikeOf 28 = .ok (.bipush 8, 2) := by decide +kernel
theorem dX11_alikeOf_30 : decode cX11_alikeOf 30 = .ok (.if_icmp .ge 61, 3) := by decide +kernel
theorem dX11_alikeOf_33 : decode cX11_alikeOf 33 = .ok (.aload_n 0, 1) := by decide +kernel
theorem dX11_alikeOf_34 : decode cX11_alikeOf 34 = .ok (.iload_n 1, 1) := by decide +kernel
theorem dX11_alikeOf_35 : decode cX11_alikeOf 35 = .ok (.iload_n 2, 1) := by decide +kernel
theorem dX11_alikeOf_36 : decode cX11_alikeOf 36 = .ok (.iload 4, 2) := by decide +kernel
theorem dX11_alikeOf_38 : decode cX11_alikeOf 38 = .ok (.invokevirtual 291, 3) := by decide +kernel
theorem dX11_alikeOf_41 : decode cX11_alikeOf 41 = .ok (.ifCond .ne 6, 3) := by decide +kernel
theorem dX11_alikeOf_44 : decode cX11_alikeOf 44 = .ok (.goto 41, 3) := by decide +kernel
theorem dX11_alikeOf_47 : decode cX11_alikeOf 47 = .ok (.iconst 0, 1) := by decide +kernel
theorem dX11_alikeOf_48 : decode cX11_alikeOf 48 = .ok (.istore 5, 2) := by decide +kernel
theorem dX11_alikeOf_50 : decode cX11_alikeOf 50 = .ok (.iload 5, 2) := by decide +kernel
theorem dX11_alikeOf_52 : decode cX11_alikeOf 52 = .ok (.iconst 4, 1) := by decide +kernel
theorem dX11_alikeOf_53 : decode cX11_alikeOf 53 = .ok (.iload_n 3, 1) := by decide +kernel
theorem dX11_alikeOf_54 : decode cX11_alikeOf 54 = .ok (.imul, 1) := by decide +kernel
theorem dX11_alikeOf_55 : decode cX11_alikeOf 55 = .ok (.if_icmp .ge 30, 3) := by decide +kernel
theorem dX11_alikeOf_58 : decode cX11_alikeOf 58 = .ok (.aload_n 0, 1) := by decide +kernel
theorem dX11_alikeOf_59 : decode cX11_alikeOf 59 = .ok (.iload_n 1, 1) := by decide +kernel
theorem dX11_alikeOf_60 : decode cX11_alikeOf 60 = .ok (.iload_n 2, 1) := by decide +kernel
theorem dX11_alikeOf_61 : decode cX11_alikeOf 61 = .ok (.iload 4, 2) := by decide +kernel
theorem dX11_alikeOf_63 : decode cX11_alikeOf 63 = .ok (.iload 5, 2) := by decide +kernel
theorem dX11_alikeOf_65 : decode cX11_alikeOf 65 = .ok (.iconst 4, 1) := by decide +kernel
theorem dX11_alikeOf_66 : decode cX11_alikeOf 66 = .ok (.idiv, 1) := by decide +kernel
theorem dX11_alikeOf_67 : decode cX11_alikeOf 67 = .ok (.iload 5, 2) := by decide +kernel
theorem dX11_alikeOf_69 : decode cX11_alikeOf 69 = .ok (.iconst 4, 1) := by decide +kernel
theorem dX11_alikeOf_70 : decode cX11_alikeOf 70 = .ok (.irem, 1) := by decide +kernel
theorem dX11_alikeOf_71 : decode cX11_alikeOf 71 = .ok (.invokevirtual 294, 3) := by decide +kernel
theorem dX11_alikeOf_74 : decode cX11_alikeOf 74 = .ok (.ifCond .eq 5, 3) := by decide +kernel
theorem dX11_alikeOf_77 : decode cX11_alikeOf 77 = .ok (.iconst 1, 1) := by decide +kernel
theorem dX11_alikeOf_78 : decode cX11_alikeOf 78 = .ok (.ireturn, 1) := by decide +kernel
theorem dX11_alikeOf_79 : decode cX11_alikeOf 79 = .ok (.iinc 5 1, 3) := by decide +kernel
theorem dX11_alikeOf_82 : decode cX11_alikeOf 82 = .ok (.goto (-32), 3) := by decide +kernel
theorem dX11_alikeOf_85 : decode cX11_alikeOf 85 = .ok (.iinc 4 1, 3) := by decide +kernel
theorem dX11_alikeOf_88 : decode cX11_alikeOf 88 = .ok (.goto (-62), 3) := by decide +kernel
theorem dX11_alikeOf_91 : decode cX11_alikeOf 91 = .ok (.iconst 0, 1) := by decide +kernel
theorem dX11_alikeOf_92 : decode cX11_alikeOf 92 = .ok (.ireturn, 1) := by decide +kernel
theorem bX11_alikeOf_0 {G : GX} {h : mH} {Q : mO → mH → Prop} {v1 : Int32} {v2 : Int32} (hi : Iv h) (K : WM G jX11_roundOf [.ref 83, .ref 97, .int (12 * v2)] h (Aft G jX11_alikeOf 9 [some (.ref 83), some (.int v1), some (.int v2), none, none, none] [] Q)) : Vw G jX11_alikeOf 0 [some (.ref 83), some (.int v1), some (.int v2), none, none, none] [] h Q :=
  s_aload_n dX11_alikeOf_0 rfl (s_aload_n dX11_alikeOf_1 rfl (s_getR (v := .ref 97) dX11_alikeOf_2 flX11_53 rfl (hi.sh rfl rfl) (hi.rf (o := 83) (k := 31) (d := 14) rfl rfl) (s_bipush 12 dX11_alikeOf_5 (by decide) (s_iload_n dX11_alikeOf_7 rfl (s_imul dX11_alikeOf_8 (s_callV (As := [.ref 97, .int (12 * v2)]) dX11_alikeOf_9 rfl lvX11_275 ⟨Nat.le_of_ble_eq_true rfl, Nat.le_of_ble_eq_true rfl⟩ (hi.sh rfl rfl) ⟨_, _, by decide, rfl⟩ rfl (Nat.le_of_ble_eq_true rfl) (K)))))))
theorem bX11_alikeOf_12 {G : GX} {h : mH} {Q : mO → mH → Prop} {v1 : Int32} {v2 : Int32} {vs0 : Int32} (hi : Iv h) (K : (vs0 ≤ 5040 → Vw G jX11_alikeOf 26 [some (.ref 83), some (.int v1), some (.int v2), some (.int vs0), some (.int 0), none] [] h Q) ∧ (¬ vs0 ≤ 5040 → Q (.inl (some (.int (-2)))) h)) : Vw G jX11_alikeOf 12 [some (.ref 83), some (.int v1), some (.int v2), none, none, none] [.int vs0] h Q :=
  s_istore_n dX11_alikeOf_12 (Nat.le_of_ble_eq_true rfl) rfl (s_iload_n dX11_alikeOf_13 rfl (s_sipush 5040 dX11_alikeOf_14 (by decide) (s_icmp_le 23 dX11_alikeOf_17 rfl (fun q3 => s_iconst 0 dX11_alikeOf_23 (by decide) (s_istore dX11_alikeOf_24 (Nat.le_of_ble_eq_true rfl) rfl ((K.1 q3)))) (fun q3 => s_bipush (-2) dX11_alikeOf_20 (by decide) (s_ireturn dX11_alikeOf_22 rfl (K.2 q3))))))
theorem bX11_alikeOf_26 {G : GX} {h : mH} {Q : mO → mH → Prop} {v1 : Int32} {v2 : Int32} {v3 : Int32} {v4 : Int32} (hi : Iv h) (K : (8 ≤ v4 → Q (.inl (some (.int 0))) h) ∧ (¬ 8 ≤ v4 → WM G jX11_isWay [.ref 83, .int v1, .int v2, .int v4] h (Aft G jX11_alikeOf 38 [some (.ref 83), some (.int v1), some (.int v2), some (.int v3), some (.int v4), none] [] Q))) : Vw G jX11_alikeOf 26 [some (.ref 83), some (.int v1), some (.int v2), some (.int v3), some (.int v4), none] [] h Q :=
  s_iload dX11_alikeOf_26 rfl (s_bipush 8 dX11_alikeOf_28 (by decide) (s_icmp_ge 91 dX11_alikeOf_30 rfl (fun q2 => s_iconst 0 dX11_alikeOf_91 (by decide) (s_ireturn dX11_alikeOf_92 rfl (K.1 q2))) (fun q2 => s_aload_n dX11_alikeOf_33 rfl (s_iload_n dX11_alikeOf_34 rfl (s_iload_n dX11_alikeOf_35 rfl (s_iload dX11_alikeOf_36 rfl (s_callV (As := [.int v1, .int v2, .int v4]) dX11_alikeOf_38 rfl lvX11_291 ⟨Nat.le_of_ble_eq_true rfl, Nat.le_of_ble_eq_true rfl⟩ (hi.sh rfl rfl) ⟨_, _, by decide, rfl⟩ rfl (Nat.le_of_ble_eq_true rfl) ((K.2 q2)))))))))
theorem bX11_alikeOf_41 {G : GX} {h : mH} {Q : mO → mH → Prop} {v1 : Int32} {v2 : Int32} {v3 : Int32} {v4 : Int32} {vs0 : Int32} (hi : Iv h) (K : (¬ vs0 = 0 → Vw G jX11_alikeOf 50 [some (.ref 83), some (.int v1), some (.int v2), some (.int v3), some (.int v4), some (.int 0)] [] h Q) ∧ (vs0 = 0 → Vw G jX11_alikeOf 85 [some (.ref 83), some (.int v1), some (.int v2), some (.int v3), some (.int v4), none] [] h Q)) : Vw G jX11_alikeOf 41 [some (.ref 83), some (.int v1), some (.int v2), some (.int v3), some (.int v4), none] [.int vs0] h Q :=
  s_if_ne 47 dX11_alikeOf_41 rfl (fun q0 => s_iconst 0 dX11_alikeOf_47 (by decide) (s_istore dX11_alikeOf_48 (Nat.le_of_ble_eq_true rfl) rfl ((K.1 q0)))) (fun q0 => s_goto 85 dX11_alikeOf_44 rfl ((K.2 q0)))
theorem bX11_alikeOf_50 {G : GX} {h : mH} {Q : mO → mH → Prop} {v1 : Int32} {v2 : Int32} {v3 : Int32} {v4 : Int32} {v5 : Int32} (hi : Iv h) (K : ((4 * v3) ≤ v5 → Vw G jX11_alikeOf 85 [some (.ref 83), some (.int v1), some (.int v2), some (.int v3), some (.int v4), none] [] h Q) ∧ (¬ (4 * v3) ≤ v5 → WM G jX11_isTime [.ref 83, .int v1, .int v2, .int v4, .int (v5 / (4 : Int32)), .int (v5 - v5 / (4 : Int32) * (4 : Int32))] h (Aft G jX11_alikeOf 71 [some (.ref 83), some (.int v1), some (.int v2), some (.int v3), some (.int v4), some (.int v5)] [] Q))) : Vw G jX11_alikeOf 50 [some (.ref 83), some (.int v1), some (.int v2), some (.int v3), some (.int v4), some (.int v5)] [] h Q :=
  s_iload dX11_alikeOf_50 rfl (s_iconst 4 dX11_alikeOf_52 (by decide) (s_iload_n dX11_alikeOf_53 rfl (s_imul dX11_alikeOf_54 (s_icmp_ge 85 dX11_alikeOf_55 rfl (fun q4 => Vw.mask [true, true, true, true, true, false] ((K.1 q4))) (fun q4 => s_aload_n dX11_alikeOf_58 rfl (s_iload_n dX11_alikeOf_59 rfl (s_iload_n dX11_alikeOf_60 rfl (s_iload dX11_alikeOf_61 rfl (s_iload dX11_alikeOf_63 rfl (s_iconst 4 dX11_alikeOf_65 (by decide) (s_idiv dX11_alikeOf_66 (by decide) (s_iload dX11_alikeOf_67 rfl (s_iconst 4 dX11_alikeOf_69 (by decide) (s_irem dX11_alikeOf_70 (by decide) (s_callV (As := [.int v1, .int v2, .int v4, .int (v5 / (4 : Int32)), .int (v5 - v5 / (4 : Int32) * (4 : Int32))]) dX11_alikeOf_71 rfl lvX11_294 ⟨Nat.le_of_ble_eq_true rfl, Nat.le_of_ble_eq_true rfl⟩ (hi.sh rfl rfl) ⟨_, _, by decide, rfl⟩ rfl (Nat.le_of_ble_eq_true rfl) ((K.2 q4)))))))))))))))))
theorem bX11_alikeOf_74 {G : GX} {h : mH} {Q : mO → mH → Prop} {v1 : Int32} {v2 : Int32} {v3 : Int32} {v4 : Int32} {v5 : Int32} {vs0 : Int32} (hi : Iv h) (K : (vs0 = 0 → Vw G jX11_alikeOf 50 [some (.ref 83), some (.int v1), some (.int v2), some (.int v3), some (.int v4), some (.int (v5 + 1))] [] h Q) ∧ (¬ vs0 = 0 → Q (.inl (some (.int 1))) h)) : Vw G jX11_alikeOf 74 [some (.ref 83), some (.int v1), some (.int v2), some (.int v3), some (.int v4), some (.int v5)] [.int vs0] h Q :=
  s_if_eq 79 dX11_alikeOf_74 rfl (fun q0 => s_iinc 1 dX11_alikeOf_79 rfl (by decide) (Nat.le_of_ble_eq_true rfl) rfl (s_goto 50 dX11_alikeOf_82 rfl ((K.1 q0)))) (fun q0 => s_iconst 1 dX11_alikeOf_77 (by decide) (s_ireturn dX11_alikeOf_78 rfl (K.2 q0)))
theorem bX11_alikeOf_85 {G : GX} {h : mH} {Q : mO → mH → Prop} {v1 : Int32} {v2 : Int32} {v3 : Int32} {v4 : Int32} (hi : Iv h) (K : Vw G jX11_alikeOf 26 [some (.ref 83), some (.int v1), some (.int v2), some (.int v3), some (.int (v4 + 1)), none] [] h Q) : Vw G jX11_alikeOf 85 [some (.ref 83), some (.int v1), some (.int v2), some (.int v3), some (.int v4), none] [] h Q :=
  s_iinc 1 dX11_alikeOf_85 rfl (by decide) (Nat.le_of_ble_eq_true rfl) rfl (s_goto 26 dX11_alikeOf_88 rfl (K))
theorem eX11_alikeOf {G : GX} {h : mH} {Q : mO → mH → Prop} {v1 : Int32} {v2 : Int32} (hi : Iv h) (K : WM G jX11_roundOf [.ref 83, .ref 97, .int (12 * v2)] h (Aft G jX11_alikeOf 9 [some (.ref 83), some (.int v1), some (.int v2), none, none, none] [] Q)) : WM G jX11_alikeOf [.ref 83, .int v1, .int v2] h Q :=
  WM.body (ls := [some (.ref 83), some (.int v1), some (.int v2), none, none, none]) rfl (by decide +kernel) rfl (Nat.le_of_ble_eq_true rfl) rfl ((bX11_alikeOf_0 hi  K))
theorem dX11_alike_0 : decode cX11_alike 0 = .ok (.aload_n 0, 1) := by decide +kernel
theorem dX11_alike_1 : decode cX11_alike 1 = .ok (.iconst 0, 1) := by decide +kernel
theorem dX11_alike_2 : decode cX11_alike 2 = .ok (.putfield 113, 3) := by decide +kernel
theorem dX11_alike_5 : decode cX11_alike 5 = .ok (.aload_n 0, 1) := by decide +kernel
theorem dX11_alike_6 : decode cX11_alike 6 = .ok (.iload_n 1, 1) := by decide +kernel
theorem dX11_alike_7 : decode cX11_alike 7 = .ok (.invokevirtual 282, 3) := by decide +kernel
theorem dX11_alike_10 : decode cX11_alike 10 = .ok (.ifCond .eq 20, 3) := by decide +kernel
theorem dX11_alike_13 : decode cX11_alike 13 = .ok (.aload_n 0, 1) := by decide +kernel
theorem dX11_alike_14 : decode cX11_alike 14 = .ok (.iload_n 2, 1) := by decide +kernel
theorem dX11_alike_15 : decode cX11_alike 15 = .ok (.invokevirtual 282, 3) := by decide +kernel
theorem dX11_alike_18 : decode cX11_alike 18 = .ok (.ifCond .eq 12, 3) := by decide +kernel
theorem dX11_alike_21 : decode cX11_alike 21 = .ok (.aload_n 0, 1) := by decide +kernel
theorem dX11_alike_22 : decode cX11_alike 22 = .ok (.iload_n 1, 1) := by decide +kernel
theorem dX11_alike_23 : decode cX11_alike 23 = .ok (.iload_n 2, 1) := by decide +kernel
theorem dX11_alike_24 : decode cX11_alike 24 = .ok (.invokevirtual 298, 3) := by decide +kernel
theorem dX11_alike_27 : decode cX11_alike 27 = .ok (.goto 4, 3) := by decide +kernel
theorem dX11_alike_30 : decode cX11_alike 30 = .ok (.iconst 0, 1) := by decide +kernel
theorem dX11_alike_31 : decode cX11_alike 31 = .ok (.ireturn, 1) := by decide +kernel
theorem bX11_alike_0 {G : GX} {h : mH} {Q : mO → mH → Prop} {v1 : Int32} {v2 : Int32} (hi : Iv h) (K : WM G jX11_isPortrait [.ref 83, .int v1] (pI h 83 0 0) (Aft G jX11_alike 7 [some (.ref 83), some (.int v1), some (.int v2)] [] Q)) : Vw G jX11_alike 0 [some (.ref 83), some (.int v1), some (.int v2)] [] h Q :=
  s_aload_n dX11_alike_0 rfl (s_iconst 0 dX11_alike_1 (by decide) (s_putI dX11_alike_2 flX11_113 ff10_0 rfl (hi.sh rfl rfl) (s_aload_n dX11_alike_5 rfl (s_iload_n dX11_alike_6 rfl (s_callV (As := [.int v1]) dX11_alike_7 rfl lvX11_282 ⟨Nat.le_of_ble_eq_true rfl, Nat.le_of_ble_eq_true rfl⟩ (hi.sh rfl rfl) ⟨_, _, by decide, rfl⟩ rfl (Nat.le_of_ble_eq_true rfl) (K))))))
theorem bX11_alike_10 {G : GX} {h : mH} {Q : mO → mH → Prop} {v1 : Int32} {v2 : Int32} {vs0 : Int32} (hi : Iv h) (K : (vs0 = 0 → Q (.inl (some (.int 0))) h) ∧ (¬ vs0 = 0 → WM G jX11_isPortrait [.ref 83, .int v2] h (Aft G jX11_alike 15 [some (.ref 83), some (.int v1), some (.int v2)] [] Q))) : Vw G jX11_alike 10 [some (.ref 83), some (.int v1), some (.int v2)] [.int vs0] h Q :=
  s_if_eq 30 dX11_alike_10 rfl (fun q0 => s_iconst 0 dX11_alike_30 (by decide) (s_ireturn dX11_alike_31 rfl (K.1 q0))) (fun q0 => s_aload_n dX11_alike_13 rfl (s_iload_n dX11_alike_14 rfl (s_callV (As := [.int v2]) dX11_alike_15 rfl lvX11_282 ⟨Nat.le_of_ble_eq_true rfl, Nat.le_of_ble_eq_true rfl⟩ (hi.sh rfl rfl) ⟨_, _, by decide, rfl⟩ rfl (Nat.le_of_ble_eq_true rfl) ((K.2 q0)))))
theorem bX11_alike_18 {G : GX} {h : mH} {Q : mO → mH → Prop} {v1 : Int32} {v2 : Int32} {vs0 : Int32} (hi : Iv h) (K : (vs0 = 0 → Q (.inl (some (.int 0))) h) ∧ (¬ vs0 = 0 → WM G jX11_alikeOf [.ref 83, .int v1, .int v2] h (Aft G jX11_alike 24 [none, none, none] [] Q))) : Vw G jX11_alike 18 [some (.ref 83), some (.int v1), some (.int v2)] [.int vs0] h Q :=
  s_if_eq 30 dX11_alike_18 rfl (fun q0 => s_iconst 0 dX11_alike_30 (by decide) (s_ireturn dX11_alike_31 rfl (K.1 q0))) (fun q0 => s_aload_n dX11_alike_21 rfl (s_iload_n dX11_alike_22 rfl (s_iload_n dX11_alike_23 rfl (Vw.mask [false, false, false] (s_callV (As := [.int v1, .int v2]) dX11_alike_24 rfl lvX11_298 ⟨Nat.le_of_ble_eq_true rfl, Nat.le_of_ble_eq_true rfl⟩ (hi.sh rfl rfl) ⟨_, _, by decide, rfl⟩ rfl (Nat.le_of_ble_eq_true rfl) ((K.2 q0)))))))
theorem bX11_alike_27 {G : GX} {h : mH} {Q : mO → mH → Prop} {vs0 : Int32} (hi : Iv h) (K : Q (.inl (some (.int vs0))) h) : Vw G jX11_alike 27 [none, none, none] [.int vs0] h Q :=
  s_goto 31 dX11_alike_27 rfl (s_ireturn dX11_alike_31 rfl K)
theorem eX11_alike {G : GX} {h : mH} {Q : mO → mH → Prop} {v1 : Int32} {v2 : Int32} (hi : Iv h) (K : WM G jX11_isPortrait [.ref 83, .int v1] (pI h 83 0 0) (Aft G jX11_alike 7 [some (.ref 83), some (.int v1), some (.int v2)] [] Q)) : WM G jX11_alike [.ref 83, .int v1, .int v2] h Q :=
  WM.body (ls := [some (.ref 83), some (.int v1), some (.int v2)]) rfl (by decide +kernel) rfl (Nat.le_of_ble_eq_true rfl) rfl ((bX11_alike_0 hi  K))
theorem dX11_kinds_0 : decode cX11_kinds 0 = .ok (.aload_n 0, 1) := by decide +kernel
theorem dX11_kinds_1 : decode cX11_kinds 1 = .ok (.iconst 0, 1) := by decide +kernel
theorem dX11_kinds_2 : decode cX11_kinds 2 = .ok (.putfield 113, 3) := by decide +kernel
theorem dX11_kinds_5 : decode cX11_kinds 5 = .ok (.iload_n 1, 1) := by decide +kernel
theorem dX11_kinds_6 : decode cX11_kinds 6 = .ok (.iconst (-1), 1) := by decide +kernel
theorem dX11_kinds_7 : decode cX11_kinds 7 = .ok (.if_icmp .eq 13, 3) := by decide +kernel
theorem dX11_kinds_10 : decode cX11_kinds 10 = .ok (.aload_n 0, 1) := by decide +kernel
theorem dX11_kinds_11 : decode cX11_kinds 11 = .ok (.iload_n 1, 1) := by decide +kernel
theorem dX11_kinds_12 : decode cX11_kinds 12 = .ok (.invokevirtual 282, 3) := by decide +kernel
theorem dX11_kinds_15 : decode cX11_kinds 15 = .ok (.ifCond .ne 5, 3) := by decide +kernel
theorem dX11_kinds_18 : decode cX11_kinds 18 = .ok (.iconst 0, 1) := by decide +kernel
theorem dX11_kinds_19 : decode cX11_kinds 19 = .ok (.ireturn, 1) := by decide +kernel
theorem dX11_kinds_20 : decode cX11_kinds 20 = .ok (.iconst 0, 1) := by decide +kernel
theorem dX11_kinds_21 : decode cX11_kinds 21 = .ok (.istore_n 2, 1) := by decide +kernel
theorem dX11_kinds_22 : decode cX11_kinds 22 = .ok (.iconst 0, 1) := by decide +kernel
theorem dX11_kinds_23 : decode cX11_kinds 23 = .ok (.istore_n 3, 1) := by decide +kernel
theorem dX11_kinds_24 : decode cX11_kinds 24 = .ok (.iload_n 3, 1) := by decide +kernel
theorem dX11_kinds_25 : decode cX11_kinds 25 = .ok (.aload_n 0, 1) := by decide +kernel
theorem dX11_kinds_26 : decode cX11_kinds 26 = .ok (.getfield 226, 3) := by decide +kernel
theorem dX11_kinds_29 : decode cX11_kinds 29 = .ok (.if_icmp .ge 83, 3) := by decide +kernel
theorem dX11_kinds_32 : decode cX11_kinds 32 = .ok (.aload_n 0, 1) := by decide +kernel
theorem dX11_kinds_33 : decode cX11_kinds 33 = .ok (.getfield 56, 3) := by decide +kernel
theorem dX11_kinds_36 : decode cX11_kinds 36 = .ok (.iload_n 3, 1) := by decide +kernel
theorem dX11_kinds_37 : decode cX11_kinds 37 = .ok (.iload_n 3, 1) := by decide +kernel
theorem dX11_kinds_38 : decode cX11_kinds 38 = .ok (.iastore, 1) := by decide +kernel
theorem dX11_kinds_39 : decode cX11_kinds 39 = .ok (.iconst 0, 1) := by decide +kernel
theorem dX11_kinds_40 : decode cX11_kinds 40 = .ok (.istore 4, 2) := by decide +kernel
theorem dX11_kinds_42 : decode cX11_kinds 42 = .ok (.iload 4, 2) := by decide +kernel
theorem dX11_kinds_44 : decode cX11_kinds 44 = .ok (.iload_n 3, 1) := by decide +kernel
theorem dX11_kinds_45 : decode cX11_kinds 45 = .ok (.if_icmp .ge 43, 3) := by decide +kernel
theorem dX11_kinds_48 : decode cX11_kinds 48 = .ok (.aload_n 0, 1) := by decide +kernel
theorem dX11_kinds_49 : decode cX11_kinds 49 = .ok (.getfield 56, 3) := by decide +kernel
theorem dX11_kinds_52 : decode cX11_kinds 52 = .ok (.iload_n 3, 1) := by decide +kernel
theorem dX11_kinds_53 : decode cX11_kinds 53 = .ok (.iaload, 1) := by decide +kernel
theorem dX11_kinds_54 : decode cX11_kinds 54 = .ok (.iload_n 3, 1) := by decide +kernel
theorem dX11_kinds_55 : decode cX11_kinds 55 = .ok (.if_icmp .ne 33, 3) := by decide +kernel
theorem dX11_kinds_58 : decode cX11_kinds 58 = .ok (.aload_n 0, 1) := by decide +kernel
theorem dX11_kinds_59 : decode cX11_kinds 59 = .ok (.iload 4, 2) := by decide +kernel
theorem dX11_kinds_61 : decode cX11_kinds 61 = .ok (.iload_n 3, 1) := by decide +kernel
theorem dX11_kinds_62 : decode cX11_kinds 62 = .ok (.invokevirtual 298, 3) := by decide +kernel
theorem dX11_kinds_65 : decode cX11_kinds 65 = .ok (.iconst 1, 1) := by decide +kernel
theorem dX11_kinds_66 : decode cX11_kinds 66 = .ok (.if_icmp .ne 16, 3) := by decide +kernel
theorem dX11_kinds_69 : decode cX11_kinds 69 = .ok (.aload_n 0, 1) := by decide +kernel
theorem dX11_kinds_70 : decode cX11_kinds 70 = .ok (.getfield 56, 3) := by decide +kernel
theorem dX11_kinds_73 : decode cX11_kinds 73 = .ok (.iload_n 3, 1) := by decide +kernel
theorem dX11_kinds_74 : decode cX11_kinds 74 = .ok (.aload_n 0, 1) := by decide +kernel
theorem dX11_kinds_75 : decode cX11_kinds 75 = .ok (.getfield 56, 3) := by decide +kernel
theorem dX11_kinds_78 : decode cX11_kinds 78 = .ok (.iload 4, 2) := by decide +kernel
theorem dX11_kinds_80 : decode cX11_kinds 80 = .ok (.iaload, 1) := by decide +kernel
theorem dX11_kinds_81 : decode cX11_kinds 81 = .ok (.iastore, 1) := by decide +kernel
theorem dX11_kinds_82 : decode cX11_kinds 82 = .ok (.iinc 4 1, 3) := by decide +kernel
theorem dX11_kinds_85 : decode cX11_kinds 85 = .ok (.goto (-43), 3) := by decide +kernel
theorem dX11_kinds_88 : decode cX11_kinds 88 = .ok (.iload_n 2, 1) := by decide +kernel
theorem dX11_kinds_89 : decode cX11_kinds 89 = .ok (.aload_n 0, 1) := by decide +kernel
theorem dX11_kinds_90 : decode cX11_kinds 90 = .ok (.getfield 56, 3) := by decide +kernel
theorem dX11_kinds_93 : decode cX11_kinds 93 = .ok (.iload_n 3, 1) := by decide +kernel
theorem dX11_kinds_94 : decode cX11_kinds 94 = .ok (.iaload, 1) := by decide +kernel
theorem dX11_kinds_95 : decode cX11_kinds 95 = .ok (.iload_n 3, 1) := by decide +kernel
theorem dX11_kinds_96 : decode cX11_kinds 96 = .ok (.if_icmp .ne 7, 3) := by decide +kernel
theorem dX11_kinds_99 : decode cX11_kinds 99 = .ok (.iconst 1, 1) := by decide +kernel
theorem dX11_kinds_100 : decode cX11_kinds 100 = .ok (.goto 4, 3) := by decide +kernel
theorem dX11_kinds_103 : decode cX11_kinds 103 = .ok (.iconst 0, 1) := by decide +kernel
theorem dX11_kinds_104 : decode cX11_kinds 104 = .ok (.iadd, 1) := by decide +kernel
theorem dX11_kinds_105 : decode cX11_kinds 105 = .ok (.istore_n 2, 1) := by decide +kernel
theorem dX11_kinds_106 : decode cX11_kinds 106 = .ok (.iinc 3 1, 3) := by decide +kernel
theorem dX11_kinds_109 : decode cX11_kinds 109 = .ok (.goto (-85), 3) := by decide +kernel
theorem dX11_kinds_112 : decode cX11_kinds 112 = .ok (.iload_n 1, 1) := by decide +kernel
theorem dX11_kinds_113 : decode cX11_kinds 113 = .ok (.iconst (-1), 1) := by decide +kernel
theorem dX11_kinds_114 : decode cX11_kinds 114 = .ok (.if_icmp .ne 7, 3) := by decide +kernel
theorem dX11_kinds_117 : decode cX11_kinds 117 = .ok (.iload_n 2, 1) := by decide +kernel
theorem dX11_kinds_118 : decode cX11_kinds 118 = .ok (.goto 9, 3) := by decide +kernel
theorem dX11_kinds_121 : decode cX11_kinds 121 = .ok (.aload_n 0, 1) := by decide +kernel
theorem dX11_kinds_122 : decode cX11_kinds 122 = .ok (.getfield 56, 3) := by decide +kernel
theorem dX11_kinds_125 : decode cX11_kinds 125 = .ok (.iload_n 1, 1) := by decide +kernel
theorem dX11_kinds_126 : decode cX11_kinds 126 = .ok (.iaload, 1) := by decide +kernel
theorem dX11_kinds_127 : decode cX11_kinds 127 = .ok (.ireturn, 1) := by decide +kernel
theorem bX11_kinds_0 {G : GX} {h : mH} {Q : mO → mH → Prop} {v1 : Int32} (hi : Iv h) (K : (v1 = (-1) → Vw G jX11_kinds 20 [some (.ref 83), some (.int v1), none, none, none] [] (pI h 83 0 0) Q) ∧ (¬ v1 = (-1) → WM G jX11_isPortrait [.ref 83, .int v1] (pI h 83 0 0) (Aft G jX11_kinds 12 [some (.ref 83), some (.int v1), none, none, none] [] Q))) : Vw G jX11_kinds 0 [some (.ref 83), some (.int v1), none, none, none] [] h Q :=
  s_aload_n dX11_kinds_0 rfl (s_iconst 0 dX11_kinds_1 (by decide) (s_putI dX11_kinds_2 flX11_113 ff10_0 rfl (hi.sh rfl rfl) (s_iload_n dX11_kinds_5 rfl (s_iconst (-1) dX11_kinds_6 (by decide) (s_icmp_eq 20 dX11_kinds_7 rfl (fun q5 => (K.1 q5)) (fun q5 => s_aload_n dX11_kinds_10 rfl (s_iload_n dX11_kinds_11 rfl (s_callV (As := [.int v1]) dX11_kinds_12 rfl lvX11_282 ⟨Nat.le_of_ble_eq_true rfl, Nat.le_of_ble_eq_true rfl⟩ (hi.sh rfl rfl) ⟨_, _, by decide, rfl⟩ rfl (Nat.le_of_ble_eq_true rfl) ((K.2 q5))))))))))
theorem bX11_kinds_15 {G : GX} {h : mH} {Q : mO → mH → Prop} {v1 : Int32} {vs0 : Int32} (hi : Iv h) (K : (¬ vs0 = 0 → Vw G jX11_kinds 20 [some (.ref 83), some (.int v1), none, none, none] [] h Q) ∧ (vs0 = 0 → Q (.inl (some (.int 0))) h)) : Vw G jX11_kinds 15 [some (.ref 83), some (.int v1), none, none, none] [.int vs0] h Q :=
  s_if_ne 20 dX11_kinds_15 rfl (fun q0 => (K.1 q0)) (fun q0 => s_iconst 0 dX11_kinds_18 (by decide) (s_ireturn dX11_kinds_19 rfl (K.2 q0)))
theorem bX11_kinds_20 {G : GX} {h : mH} {Q : mO → mH → Prop} {v1 : Int32} (hi : Iv h) (K : Vw G jX11_kinds 24 [some (.ref 83), some (.int v1), some (.int 0), some (.int 0), none] [] h Q) : Vw G jX11_kinds 20 [some (.ref 83), some (.int v1), none, none, none] [] h Q :=
  s_iconst 0 dX11_kinds_20 (by decide) (s_istore_n dX11_kinds_21 (Nat.le_of_ble_eq_true rfl) rfl (s_iconst 0 dX11_kinds_22 (by decide) (s_istore_n dX11_kinds_23 (Nat.le_of_ble_eq_true rfl) rfl (K))))
theorem bX11_kinds_24 {G : GX} {h : mH} {Q : mO → mH → Prop} {v1 : Int32} {v2 : Int32} {v3 : Int32} (hi : Iv h) (K : ((gI h 83 30) ≤ v3 → ((¬ v1 = (-1) → (vp_in v1 8 ∧ Q (.inl (some (.int (gI h 98 (Int32.toNatClampNeg v1))))) h)) ∧ (v1 = (-1) → Q (.inl (some (.int v2))) h))) ∧ (¬ (gI h 83 30) ≤ v3 → (vp_in v3 8 ∧ Vw G jX11_kinds 42 [some (.ref 83), some (.int v1), some (.int v2), some (.int v3), some (.int 0)] [] (pI h 98 (Int32.toNatClampNeg v3) v3) Q))) : Vw G jX11_kinds 24 [some (.ref 83), some (.int v1), some (.int v2), some (.int v3), none] [] h Q :=
  s_iload_n dX11_kinds_24 rfl (s_aload_n dX11_kinds_25 rfl (s_getI dX11_kinds_26 flX11_226 (Or.inl rfl) (hi.sh rfl rfl) (s_icmp_ge 112 dX11_kinds_29 rfl (fun q3 => s_iload_n dX11_kinds_112 rfl (s_iconst (-1) dX11_kinds_113 (by decide) (s_icmp_ne 121 dX11_kinds_114 rfl (fun q6 => s_aload_n dX11_kinds_121 rfl (s_getR (v := .ref 98) dX11_kinds_122 flX11_56 rfl (hi.sh rfl rfl) (hi.rf (o := 83) (k := 32) (d := 15) rfl rfl) (s_iload_n dX11_kinds_125 rfl (s_iaload dX11_kinds_126 (hi.sh rfl rfl) ((K.1 q3).1 q6).1 (s_ireturn dX11_kinds_127 rfl ((K.1 q3).1 q6).2))))) (fun q6 => s_iload_n dX11_kinds_117 rfl (s_goto 127 dX11_kinds_118 rfl (s_ireturn dX11_kinds_127 rfl ((K.1 q3).2 q6))))))) (fun q3 => s_aload_n dX11_kinds_32 rfl (s_getR (v := .ref 98) dX11_kinds_33 flX11_56 rfl (hi.sh rfl rfl) (hi.rf (o := 83) (k := 32) (d := 15) rfl rfl) (s_iload_n dX11_kinds_36 rfl (s_iload_n dX11_kinds_37 rfl (s_iastore dX11_kinds_38 (hi.sh rfl rfl) (K.2 q3).1 (s_iconst 0 dX11_kinds_39 (by decide) (s_istore dX11_kinds_40 (Nat.le_of_ble_eq_true rfl) rfl ((K.2 q3).2)))))))))))
theorem bX11_kinds_42 {G : GX} {h : mH} {Q : mO → mH → Prop} {v1 : Int32} {v2 : Int32} {v3 : Int32} {v4 : Int32} (hi : Iv h) (K : (v3 ≤ v4 → Vw G jX11_kinds 88 [some (.ref 83), some (.int v1), some (.int v2), some (.int v3), none] [] h Q) ∧ (¬ v3 ≤ v4 → (vp_in v3 8 ∧ ((¬ (gI h 98 (Int32.toNatClampNeg v3)) = v3 → Vw G jX11_kinds 88 [some (.ref 83), some (.int v1), some (.int v2), some (.int v3), none] [] h Q) ∧ ((gI h 98 (Int32.toNatClampNeg v3)) = v3 → WM G jX11_alikeOf [.ref 83, .int v4, .int v3] h (Aft G jX11_kinds 62 [some (.ref 83), some (.int v1), some (.int v2), some (.int v3), some (.int v4)] [] Q)))))) : Vw G jX11_kinds 42 [some (.ref 83), some (.int v1), some (.int v2), some (.int v3), some (.int v4)] [] h Q :=
  s_iload dX11_kinds_42 rfl (s_iload_n dX11_kinds_44 rfl (s_icmp_ge 88 dX11_kinds_45 rfl (fun q2 => Vw.mask [true, true, true, true, false] ((K.1 q2))) (fun q2 => s_aload_n dX11_kinds_48 rfl (s_getR (v := .ref 98) dX11_kinds_49 flX11_56 rfl (hi.sh rfl rfl) (hi.rf (o := 83) (k := 32) (d := 15) rfl rfl) (s_iload_n dX11_kinds_52 rfl (s_iaload dX11_kinds_53 (hi.sh rfl rfl) (K.2 q2).1 (s_iload_n dX11_kinds_54 rfl (s_icmp_ne 88 dX11_kinds_55 rfl (fun q8 => Vw.mask [true, true, true, true, false] (((K.2 q2).2.1 q8))) (fun q8 => s_aload_n dX11_kinds_58 rfl (s_iload dX11_kinds_59 rfl (s_iload_n dX11_kinds_61 rfl (s_callV (As := [.int v4, .int v3]) dX11_kinds_62 rfl lvX11_298 ⟨Nat.le_of_ble_eq_true rfl, Nat.le_of_ble_eq_true rfl⟩ (hi.sh rfl rfl) ⟨_, _, by decide, rfl⟩ rfl (Nat.le_of_ble_eq_true rfl) (((K.2 q2).2.2 q8))))))))))))))
theorem bX11_kinds_65 {G : GX} {h : mH} {Q : mO → mH → Prop} {v1 : Int32} {v2 : Int32} {v3 : Int32} {v4 : Int32} {vs0 : Int32} (hi : Iv h) (K : (¬ vs0 = 1 → Vw G jX11_kinds 82 [some (.ref 83), some (.int v1), some (.int v2), some (.int v3), some (.int v4)] [] h Q) ∧ (vs0 = 1 → (vp_in v4 8 ∧ (vp_in v3 8 ∧ Vw G jX11_kinds 82 [some (.ref 83), some (.int v1), some (.int v2), some (.int v3), some (.int v4)] [] (pI h 98 (Int32.toNatClampNeg v3) (gI h 98 (Int32.toNatClampNeg v4))) Q)))) : Vw G jX11_kinds 65 [some (.ref 83), some (.int v1), some (.int v2), some (.int v3), some (.int v4)] [.int vs0] h Q :=
  s_iconst 1 dX11_kinds_65 (by decide) (s_icmp_ne 82 dX11_kinds_66 rfl (fun q1 => (K.1 q1)) (fun q1 => s_aload_n dX11_kinds_69 rfl (s_getR (v := .ref 98) dX11_kinds_70 flX11_56 rfl (hi.sh rfl rfl) (hi.rf (o := 83) (k := 32) (d := 15) rfl rfl) (s_iload_n dX11_kinds_73 rfl (s_aload_n dX11_kinds_74 rfl (s_getR (v := .ref 98) dX11_kinds_75 flX11_56 rfl (hi.sh rfl rfl) (hi.rf (o := 83) (k := 32) (d := 15) rfl rfl) (s_iload dX11_kinds_78 rfl (s_iaload dX11_kinds_80 (hi.sh rfl rfl) (K.2 q1).1 (s_iastore dX11_kinds_81 (hi.sh rfl rfl) (K.2 q1).2.1 ((K.2 q1).2.2))))))))))
theorem bX11_kinds_82 {G : GX} {h : mH} {Q : mO → mH → Prop} {v1 : Int32} {v2 : Int32} {v3 : Int32} {v4 : Int32} (hi : Iv h) (K : Vw G jX11_kinds 42 [some (.ref 83), some (.int v1), some (.int v2), some (.int v3), some (.int (v4 + 1))] [] h Q) : Vw G jX11_kinds 82 [some (.ref 83), some (.int v1), some (.int v2), some (.int v3), some (.int v4)] [] h Q :=
  s_iinc 1 dX11_kinds_82 rfl (by decide) (Nat.le_of_ble_eq_true rfl) rfl (s_goto 42 dX11_kinds_85 rfl (K))
theorem bX11_kinds_88 {G : GX} {h : mH} {Q : mO → mH → Prop} {v1 : Int32} {v2 : Int32} {v3 : Int32} (hi : Iv h) (K : vp_in v3 8 ∧ ((¬ (gI h 98 (Int32.toNatClampNeg v3)) = v3 → Vw G jX11_kinds 24 [some (.ref 83), some (.int v1), some (.int (v2 + 0)), some (.int (v3 + 1)), none] [] h Q) ∧ ((gI h 98 (Int32.toNatClampNeg v3)) = v3 → Vw G jX11_kinds 24 [some (.ref 83), some (.int v1), some (.int (v2 + 1)), some (.int (v3 + 1)), none] [] h Q))) : Vw G jX11_kinds 88 [some (.ref 83), some (.int v1), some (.int v2), some (.int v3), none] [] h Q :=
  s_iload_n dX11_kinds_88 rfl (s_aload_n dX11_kinds_89 rfl (s_getR (v := .ref 98) dX11_kinds_90 flX11_56 rfl (hi.sh rfl rfl) (hi.rf (o := 83) (k := 32) (d := 15) rfl rfl) (s_iload_n dX11_kinds_93 rfl (s_iaload dX11_kinds_94 (hi.sh rfl rfl) K.1 (s_iload_n dX11_kinds_95 rfl (s_icmp_ne 103 dX11_kinds_96 rfl (fun q6 => s_iconst 0 dX11_kinds_103 (by decide) (s_iadd dX11_kinds_104 (s_istore_n dX11_kinds_105 (Nat.le_of_ble_eq_true rfl) rfl (s_iinc 1 dX11_kinds_106 rfl (by decide) (Nat.le_of_ble_eq_true rfl) rfl (s_goto 24 dX11_kinds_109 rfl ((K.2.1 q6))))))) (fun q6 => s_iconst 1 dX11_kinds_99 (by decide) (s_goto 104 dX11_kinds_100 rfl (s_iadd dX11_kinds_104 (s_istore_n dX11_kinds_105 (Nat.le_of_ble_eq_true rfl) rfl (s_iinc 1 dX11_kinds_106 rfl (by decide) (Nat.le_of_ble_eq_true rfl) rfl (s_goto 24 dX11_kinds_109 rfl ((K.2.2 q6))))))))))))))
theorem eX11_kinds {G : GX} {h : mH} {Q : mO → mH → Prop} {v1 : Int32} (hi : Iv h) (K : (v1 = (-1) → Vw G jX11_kinds 20 [some (.ref 83), some (.int v1), none, none, none] [] (pI h 83 0 0) Q) ∧ (¬ v1 = (-1) → WM G jX11_isPortrait [.ref 83, .int v1] (pI h 83 0 0) (Aft G jX11_kinds 12 [some (.ref 83), some (.int v1), none, none, none] [] Q))) : WM G jX11_kinds [.ref 83, .int v1] h Q :=
  WM.body (ls := [some (.ref 83), some (.int v1), none, none, none]) rfl (by decide +kernel) rfl (Nat.le_of_ble_eq_true rfl) rfl ((bX11_kinds_0 hi  K))
theorem dX11_point_0 : decode cX11_point 0 = .ok (.aload_n 0, 1) := by decide +kernel
theorem dX11_point_1 : decode cX11_point 1 = .ok (.iconst 0, 1) := by decide +kernel
theorem dX11_point_2 : decode cX11_point 2 = .ok (.putfield 113, 3) := by decide +kernel
theorem dX11_point_5 : decode cX11_point 5 = .ok (.aload_n 0, 1) := by decide +kernel
theorem dX11_point_6 : decode cX11_point 6 = .ok (.getfield 229, 3) := by decide +kernel
theorem dX11_point_9 : decode cX11_point 9 = .ok (.bipush 6, 2) := by decide +kernel
theorem dX11_point_11 : decode cX11_point 11 = .ok (.if_icmp .eq 40, 3) := by decide +kernel
theorem dX11_point_14 : decode cX11_point 14 = .ok (.iload_n 1, 1) := by decide +kernel
theorem dX11_point_15 : decode cX11_point 15 = .ok (.iconst 0, 1) := by decide +kernel
theorem dX11_point_16 : decode cX11_point 16 = .ok (.sipush 9999, 3) := by decide +kernel
theorem dX11_point_19 : decode cX11_point 19 = .ok (.invokestatic 238, 3) := by decide +kernel
theorem dX11_point_22 : decode cX11_point 22 = .ok (.ifCond .eq 29, 3) := by decide +kernel
theorem dX11_point_25 : decode cX11_point 25 = .ok (.iload_n 2, 1) := by decide +kernel
theorem dX11_point_26 : decode cX11_point 26 = .ok (.sipush (-260), 3) := by decide +kernel
theorem dX11_point_29 : decode cX11_point 29 = .ok (.sipush 260, 3) := by decide +kernel
theorem dX11_point_32 : decode cX11_point 32 = .ok (.invokestatic 238, 3) := by decide +kernel
theorem dX11_point_35 : decode cX11_point 35 = .ok (.ifCond .eq 16, 3) := by decide +kernel
theorem dX11_point_38 : decode cX11_point 38 = .ok (.iload_n 3, 1) := by decide +kernel
theorem dX11_point_39 : decode cX11_point 39 = .ok (.sipush (-260), 3) := by decide +kernel
theorem dX11_point_42 : decode cX11_point 42 = .ok (.sipush 260, 3) := by decide +kernel
theorem dX11_point_45 : decode cX11_point 45 = .ok (.invokestatic 238, 3) := by decide +kernel
theorem dX11_point_48 : decode cX11_point 48 = .ok (.ifCond .ne 9, 3) := by decide +kernel
theorem dX11_point_51 : decode cX11_point 51 = .ok (.aload_n 0, 1) := by decide +kernel
theorem dX11_point_52 : decode cX11_point 52 = .ok (.iconst 3, 1) := by decide +kernel
theorem dX11_point_53 : decode cX11_point 53 = .ok (.invokevirtual 249, 3) := by decide +kernel
theorem dX11_point_56 : decode cX11_point 56 = .ok (.ireturn, 1) := by decide +kernel
theorem dX11_point_57 : decode cX11_point 57 = .ok (.aload_n 0, 1) := by decide +kernel
theorem dX11_point_58 : decode cX11_point 58 = .ok (.getfield 59, 3) := by decide +kernel
theorem dX11_point_61 : decode cX11_point 61 = .ok (.iconst 3, 1) := by decide +kernel
theorem dX11_point_62 : decode cX11_point 62 = .ok (.aload_n 0, 1) := by decide +kernel
theorem dX11_point_63 : decode cX11_point 63 = .ok (.getfield 229, 3) := by decide +kernel
theorem dX11_point_66 : decode cX11_point 66 = .ok (.imul, 1) := by decide +kernel
theorem dX11_point_67 : decode cX11_point 67 = .ok (.iload_n 1, 1) := by decide +kernel
theorem dX11_point_68 : decode cX11_point 68 = .ok (.iastore, 1) := by decide +kernel
theorem dX11_point_69 : decode cX11_point 69 = .ok (.aload_n 0, 1) := by decide +kernel
theorem dX11_point_70 : decode cX11_point 70 = .ok (.getfield 59, 3) := by decide +kernel
theorem dX11_point_73 : decode cX11_point 73 = .ok (.iconst 3, 1) := by decide +kernel
theorem dX11_point_74 : decode cX11_point 74 = .ok (.aload_n 0, 1) := by decide +kernel
theorem dX11_point_75 : decode cX11_point 75 = .ok (.getfield 229, 3) := by decide +kernel
theorem dX11_point_78 : decode cX11_point 78 = .ok (.imul, 1) := by decide +kernel
theorem dX11_point_79 : decode cX11_point 79 = .ok (.iconst 1, 1) := by decide +kernel
theorem dX11_point_80 : decode cX11_point 80 = .ok (.iadd, 1) := by decide +kernel
theorem dX11_point_81 : decode cX11_point 81 = .ok (.iload_n 2, 1) := by decide +kernel
theorem dX11_point_82 : decode cX11_point 82 = .ok (.iastore, 1) := by decide +kernel
theorem dX11_point_83 : decode cX11_point 83 = .ok (.aload_n 0, 1) := by decide +kernel
theorem dX11_point_84 : decode cX11_point 84 = .ok (.getfield 59, 3) := by decide +kernel
theorem dX11_point_87 : decode cX11_point 87 = .ok (.iconst 3, 1) := by decide +kernel
theorem dX11_point_88 : decode cX11_point 88 = .ok (.aload_n 0, 1) := by decide +kernel
theorem dX11_point_89 : decode cX11_point 89 = .ok (.getfield 229, 3) := by decide +kernel
theorem dX11_point_92 : decode cX11_point 92 = .ok (.imul, 1) := by decide +kernel
theorem dX11_point_93 : decode cX11_point 93 = .ok (.iconst 2, 1) := by decide +kernel
theorem dX11_point_94 : decode cX11_point 94 = .ok (.iadd, 1) := by decide +kernel
theorem dX11_point_95 : decode cX11_point 95 = .ok (.iload_n 3, 1) := by decide +kernel
theorem dX11_point_96 : decode cX11_point 96 = .ok (.iastore, 1) := by decide +kernel
theorem dX11_point_97 : decode cX11_point 97 = .ok (.aload_n 0, 1) := by decide +kernel
theorem dX11_point_98 : decode cX11_point 98 = .ok (.dup, 1) := by decide +kernel
theorem dX11_point_99 : decode cX11_point 99 = .ok (.getfield 229, 3) := by decide +kernel
theorem dX11_point_102 : decode cX11_point 102 = .ok (.iconst 1, 1) := by decide +kernel
theorem dX11_point_103 : decode cX11_point 103 = .ok (.iadd, 1) := by decide +kernel
theorem dX11_point_104 : decode cX11_point 104 = .ok (.putfield 229, 3) := by decide +kernel
theorem dX11_point_107 : decode cX11_point 107 = .ok (.aload_n 0, 1) := by decide +kernel
theorem dX11_point_108 : decode cX11_point 108 = .ok (.getfield 229, 3) := by decide +kernel
theorem dX11_point_111 : decode cX11_point 111 = .ok (.ireturn, 1) := by decide +kernel
theorem bX11_point_0 {G : GX} {h : mH} {Q : mO → mH → Prop} {v1 : Int32} {v2 : Int32} {v3 : Int32} (hi : Iv h) (K : ((gI (pI h 83 0 0) 83 33) = 6 → Vw G jX11_point 51 [some (.ref 83), none, none, none] [] (pI h 83 0 0) Q) ∧ (¬ (gI (pI h 83 0 0) 83 33) = 6 → (((fX11_within v1 0 9999) = 0 → Vw G jX11_point 51 [some (.ref 83), none, none, none] [] (pI h 83 0 0) Q) ∧ (¬ (fX11_within v1 0 9999) = 0 → (((fX11_within v2 (-260) 260) = 0 → Vw G jX11_point 51 [some (.ref 83), none, none, none] [] (pI h 83 0 0) Q) ∧ (¬ (fX11_within v2 (-260) 260) = 0 → ((¬ (fX11_within v3 (-260) 260) = 0 → (vp_in (3 * (gI (pI h 83 0 0) 83 33)) 18 ∧ (vp_in ((3 * (gI (pI (pI h 83 0 0) 99 (Int32.toNatClampNeg (3 * (gI (pI h 83 0 0) 83 33))) v1) 83 33)) + 1) 18 ∧ (vp_in ((3 * (gI (pI (pI (pI h 83 0 0) 99 (Int32.toNatClampNeg (3 * (gI (pI h 83 0 0) 83 33))) v1) 99 (Int32.toNatClampNeg ((3 * (gI (pI (pI h 83 0 0) 99 (Int32.toNatClampNeg (3 * (gI (pI h 83 0 0) 83 33))) v1) 83 33)) + 1)) v2) 83 33)) + 2) 18 ∧ Q (.inl (some (.int (gI (pI (pI (pI (pI (pI h 83 0 0) 99 (Int32.toNatClampNeg (3 * (gI (pI h 83 0 0) 83 33))) v1) 99 (Int32.toNatClampNeg ((3 * (gI (pI (pI h 83 0 0) 99 (Int32.toNatClampNeg (3 * (gI (pI h 83 0 0) 83 33))) v1) 83 33)) + 1)) v2) 99 (Int32.toNatClampNeg ((3 * (gI (pI (pI (pI h 83 0 0) 99 (Int32.toNatClampNeg (3 * (gI (pI h 83 0 0) 83 33))) v1) 99 (Int32.toNatClampNeg ((3 * (gI (pI (pI h 83 0 0) 99 (Int32.toNatClampNeg (3 * (gI (pI h 83 0 0) 83 33))) v1) 83 33)) + 1)) v2) 83 33)) + 2)) v3) 83 33 ((gI (pI (pI (pI (pI h 83 0 0) 99 (Int32.toNatClampNeg (3 * (gI (pI h 83 0 0) 83 33))) v1) 99 (Int32.toNatClampNeg ((3 * (gI (pI (pI h 83 0 0) 99 (Int32.toNatClampNeg (3 * (gI (pI h 83 0 0) 83 33))) v1) 83 33)) + 1)) v2) 99 (Int32.toNatClampNeg ((3 * (gI (pI (pI (pI h 83 0 0) 99 (Int32.toNatClampNeg (3 * (gI (pI h 83 0 0) 83 33))) v1) 99 (Int32.toNatClampNeg ((3 * (gI (pI (pI h 83 0 0) 99 (Int32.toNatClampNeg (3 * (gI (pI h 83 0 0) 83 33))) v1) 83 33)) + 1)) v2) 83 33)) + 2)) v3) 83 33) + 1)) 83 33)))) (pI (pI (pI (pI (pI h 83 0 0) 99 (Int32.toNatClampNeg (3 * (gI (pI h 83 0 0) 83 33))) v1) 99 (Int32.toNatClampNeg ((3 * (gI (pI (pI h 83 0 0) 99 (Int32.toNatClampNeg (3 * (gI (pI h 83 0 0) 83 33))) v1) 83 33)) + 1)) v2) 99 (Int32.toNatClampNeg ((3 * (gI (pI (pI (pI h 83 0 0) 99 (Int32.toNatClampNeg (3 * (gI (pI h 83 0 0) 83 33))) v1) 99 (Int32.toNatClampNeg ((3 * (gI (pI (pI h 83 0 0) 99 (Int32.toNatClampNeg (3 * (gI (pI h 83 0 0) 83 33))) v1) 83 33)) + 1)) v2) 83 33)) + 2)) v3) 83 33 ((gI (pI (pI (pI (pI h 83 0 0) 99 (Int32.toNatClampNeg (3 * (gI (pI h 83 0 0) 83 33))) v1) 99 (Int32.toNatClampNeg ((3 * (gI (pI (pI h 83 0 0) 99 (Int32.toNatClampNeg (3 * (gI (pI h 83 0 0) 83 33))) v1) 83 33)) + 1)) v2) 99 (Int32.toNatClampNeg ((3 * (gI (pI (pI (pI h 83 0 0) 99 (Int32.toNatClampNeg (3 * (gI (pI h 83 0 0) 83 33))) v1) 99 (Int32.toNatClampNeg ((3 * (gI (pI (pI h 83 0 0) 99 (Int32.toNatClampNeg (3 * (gI (pI h 83 0 0) 83 33))) v1) 83 33)) + 1)) v2) 83 33)) + 2)) v3) 83 33) + 1)))))) ∧ ((fX11_within v3 (-260) 260) = 0 → Vw G jX11_point 51 [some (.ref 83), none, none, none] [] (pI h 83 0 0) Q)))))))) : Vw G jX11_point 0 [some (.ref 83), some (.int v1), some (.int v2), some (.int v3)] [] h Q :=
  s_aload_n dX11_point_0 rfl (s_iconst 0 dX11_point_1 (by decide) (s_putI dX11_point_2 flX11_113 ff10_0 rfl (hi.sh rfl rfl) (s_aload_n dX11_point_5 rfl (s_getI dX11_point_6 flX11_229 (Or.inl rfl) (hi.sh rfl rfl) (s_bipush 6 dX11_point_9 (by decide) (s_icmp_eq 51 dX11_point_11 rfl (fun q6 => Vw.mask [true, false, false, false] ((K.1 q6))) (fun q6 => s_iload_n dX11_point_14 rfl (s_iconst 0 dX11_point_15 (by decide) (s_sipush 9999 dX11_point_16 (by decide) (s_callS (As := [.int v1, .int 0, .int 9999]) dX11_point_19 rfl lsX11_238 ⟨Nat.le_of_ble_eq_true rfl, Nat.le_of_ble_eq_true rfl⟩ rfl (Nat.le_of_ble_eq_true rfl) (mX11_within   (s_if_eq 51 dX11_point_22 rfl (fun q11 => Vw.mask [true, false, false, false] (((K.2 q6).1 q11))) (fun q11 => s_iload_n dX11_point_25 rfl (s_sipush (-260) dX11_point_26 (by decide) (s_sipush 260 dX11_point_29 (by decide) (s_callS (As := [.int v2, .int (-260), .int 260]) dX11_point_32 rfl lsX11_238 ⟨Nat.le_of_ble_eq_true rfl, Nat.le_of_ble_eq_true rfl⟩ rfl (Nat.le_of_ble_eq_true rfl) (mX11_within   (s_if_eq 51 dX11_point_35 rfl (fun q16 => Vw.mask [true, false, false, false] ((((K.2 q6).2 q11).1 q16))) (fun q16 => s_iload_n dX11_point_38 rfl (s_sipush (-260) dX11_point_39 (by decide) (s_sipush 260 dX11_point_42 (by decide) (s_callS (As := [.int v3, .int (-260), .int 260]) dX11_point_45 rfl lsX11_238 ⟨Nat.le_of_ble_eq_true rfl, Nat.le_of_ble_eq_true rfl⟩ rfl (Nat.le_of_ble_eq_true rfl) (mX11_within   (s_if_ne 57 dX11_point_48 rfl (fun q21 => s_aload_n dX11_point_57 rfl (s_getR (v := .ref 99) dX11_point_58 flX11_59 rfl (hi.sh rfl rfl) (hi.rf (o := 83) (k := 34) (d := 16) rfl rfl) (s_iconst 3 dX11_point_61 (by decide) (s_aload_n dX11_point_62 rfl (s_getI dX11_point_63 flX11_229 (Or.inl rfl) (hi.sh rfl rfl) (s_imul dX11_point_66 (s_iload_n dX11_point_67 rfl (s_iastore dX11_point_68 (hi.sh rfl rfl) ((((K.2 q6).2 q11).2 q16).1 q21).1 (s_aload_n dX11_point_69 rfl (s_getR (v := .ref 99) dX11_point_70 flX11_59 rfl (hi.sh rfl rfl) (hi.rf (o := 83) (k := 34) (d := 16) rfl rfl) (s_iconst 3 dX11_point_73 (by decide) (s_aload_n dX11_point_74 rfl (s_getI dX11_point_75 flX11_229 (Or.inl rfl) (hi.sh rfl rfl) (s_imul dX11_point_78 (s_iconst 1 dX11_point_79 (by decide) (s_iadd dX11_point_80 (s_iload_n dX11_point_81 rfl (s_iastore dX11_point_82 (hi.sh rfl rfl) ((((K.2 q6).2 q11).2 q16).1 q21).2.1 (s_aload_n dX11_point_83 rfl (s_getR (v := .ref 99) dX11_point_84 flX11_59 rfl (hi.sh rfl rfl) (hi.rf (o := 83) (k := 34) (d := 16) rfl rfl) (s_iconst 3 dX11_point_87 (by decide) (s_aload_n dX11_point_88 rfl (s_getI dX11_point_89 flX11_229 (Or.inl rfl) (hi.sh rfl rfl) (s_imul dX11_point_92 (s_iconst 2 dX11_point_93 (by decide) (s_iadd dX11_point_94 (s_iload_n dX11_point_95 rfl (s_iastore dX11_point_96 (hi.sh rfl rfl) ((((K.2 q6).2 q11).2 q16).1 q21).2.2.1 (s_aload_n dX11_point_97 rfl (s_dupr dX11_point_98 (s_getI dX11_point_99 flX11_229 (Or.inl rfl) (hi.sh rfl rfl) (s_iconst 1 dX11_point_102 (by decide) (s_iadd dX11_point_103 (s_putI dX11_point_104 flX11_229 ff10_33 rfl (hi.sh rfl rfl) (s_aload_n dX11_point_107 rfl (s_getI dX11_point_108 flX11_229 (Or.inl rfl) (hi.sh rfl rfl) (s_ireturn dX11_point_111 rfl ((((K.2 q6).2 q11).2 q16).1 q21).2.2.2))))))))))))))))))))))))))))))))))))) (fun q21 => Vw.mask [true, false, false, false] (((((K.2 q6).2 q11).2 q16).2 q21)))))))))))))))))))))))))))
theorem bX11_point_51 {G : GX} {h : mH} {Q : mO → mH → Prop} (hi : Iv h) (K : WM G jX11_refuses [.ref 83, .int 3] h (Aft G jX11_point 53 [none, none, none, none] [] Q)) : Vw G jX11_point 51 [some (.ref 83), none, none, none] [] h Q :=
  s_aload_n dX11_point_51 rfl (s_iconst 3 dX11_point_52 (by decide) (Vw.mask [false, false, false, false] (s_callV (As := [.int 3]) dX11_point_53 rfl lvX11_249 ⟨Nat.le_of_ble_eq_true rfl, Nat.le_of_ble_eq_true rfl⟩ (hi.sh rfl rfl) ⟨_, _, by decide, rfl⟩ rfl (Nat.le_of_ble_eq_true rfl) (K))))
theorem bX11_point_56 {G : GX} {h : mH} {Q : mO → mH → Prop} {vs0 : Int32} (hi : Iv h) (K : Q (.inl (some (.int vs0))) h) : Vw G jX11_point 56 [none, none, none, none] [.int vs0] h Q :=
  s_ireturn dX11_point_56 rfl K
theorem eX11_point {G : GX} {h : mH} {Q : mO → mH → Prop} {v1 : Int32} {v2 : Int32} {v3 : Int32} (hi : Iv h) (K : ((gI (pI h 83 0 0) 83 33) = 6 → Vw G jX11_point 51 [some (.ref 83), none, none, none] [] (pI h 83 0 0) Q) ∧ (¬ (gI (pI h 83 0 0) 83 33) = 6 → (((fX11_within v1 0 9999) = 0 → Vw G jX11_point 51 [some (.ref 83), none, none, none] [] (pI h 83 0 0) Q) ∧ (¬ (fX11_within v1 0 9999) = 0 → (((fX11_within v2 (-260) 260) = 0 → Vw G jX11_point 51 [some (.ref 83), none, none, none] [] (pI h 83 0 0) Q) ∧ (¬ (fX11_within v2 (-260) 260) = 0 → ((¬ (fX11_within v3 (-260) 260) = 0 → (vp_in (3 * (gI (pI h 83 0 0) 83 33)) 18 ∧ (vp_in ((3 * (gI (pI (pI h 83 0 0) 99 (Int32.toNatClampNeg (3 * (gI (pI h 83 0 0) 83 33))) v1) 83 33)) + 1) 18 ∧ (vp_in ((3 * (gI (pI (pI (pI h 83 0 0) 99 (Int32.toNatClampNeg (3 * (gI (pI h 83 0 0) 83 33))) v1) 99 (Int32.toNatClampNeg ((3 * (gI (pI (pI h 83 0 0) 99 (Int32.toNatClampNeg (3 * (gI (pI h 83 0 0) 83 33))) v1) 83 33)) + 1)) v2) 83 33)) + 2) 18 ∧ Q (.inl (some (.int (gI (pI (pI (pI (pI (pI h 83 0 0) 99 (Int32.toNatClampNeg (3 * (gI (pI h 83 0 0) 83 33))) v1) 99 (Int32.toNatClampNeg ((3 * (gI (pI (pI h 83 0 0) 99 (Int32.toNatClampNeg (3 * (gI (pI h 83 0 0) 83 33))) v1) 83 33)) + 1)) v2) 99 (Int32.toNatClampNeg ((3 * (gI (pI (pI (pI h 83 0 0) 99 (Int32.toNatClampNeg (3 * (gI (pI h 83 0 0) 83 33))) v1) 99 (Int32.toNatClampNeg ((3 * (gI (pI (pI h 83 0 0) 99 (Int32.toNatClampNeg (3 * (gI (pI h 83 0 0) 83 33))) v1) 83 33)) + 1)) v2) 83 33)) + 2)) v3) 83 33 ((gI (pI (pI (pI (pI h 83 0 0) 99 (Int32.toNatClampNeg (3 * (gI (pI h 83 0 0) 83 33))) v1) 99 (Int32.toNatClampNeg ((3 * (gI (pI (pI h 83 0 0) 99 (Int32.toNatClampNeg (3 * (gI (pI h 83 0 0) 83 33))) v1) 83 33)) + 1)) v2) 99 (Int32.toNatClampNeg ((3 * (gI (pI (pI (pI h 83 0 0) 99 (Int32.toNatClampNeg (3 * (gI (pI h 83 0 0) 83 33))) v1) 99 (Int32.toNatClampNeg ((3 * (gI (pI (pI h 83 0 0) 99 (Int32.toNatClampNeg (3 * (gI (pI h 83 0 0) 83 33))) v1) 83 33)) + 1)) v2) 83 33)) + 2)) v3) 83 33) + 1)) 83 33)))) (pI (pI (pI (pI (pI h 83 0 0) 99 (Int32.toNatClampNeg (3 * (gI (pI h 83 0 0) 83 33))) v1) 99 (Int32.toNatClampNeg ((3 * (gI (pI (pI h 83 0 0) 99 (Int32.toNatClampNeg (3 * (gI (pI h 83 0 0) 83 33))) v1) 83 33)) + 1)) v2) 99 (Int32.toNatClampNeg ((3 * (gI (pI (pI (pI h 83 0 0) 99 (Int32.toNatClampNeg (3 * (gI (pI h 83 0 0) 83 33))) v1) 99 (Int32.toNatClampNeg ((3 * (gI (pI (pI h 83 0 0) 99 (Int32.toNatClampNeg (3 * (gI (pI h 83 0 0) 83 33))) v1) 83 33)) + 1)) v2) 83 33)) + 2)) v3) 83 33 ((gI (pI (pI (pI (pI h 83 0 0) 99 (Int32.toNatClampNeg (3 * (gI (pI h 83 0 0) 83 33))) v1) 99 (Int32.toNatClampNeg ((3 * (gI (pI (pI h 83 0 0) 99 (Int32.toNatClampNeg (3 * (gI (pI h 83 0 0) 83 33))) v1) 83 33)) + 1)) v2) 99 (Int32.toNatClampNeg ((3 * (gI (pI (pI (pI h 83 0 0) 99 (Int32.toNatClampNeg (3 * (gI (pI h 83 0 0) 83 33))) v1) 99 (Int32.toNatClampNeg ((3 * (gI (pI (pI h 83 0 0) 99 (Int32.toNatClampNeg (3 * (gI (pI h 83 0 0) 83 33))) v1) 83 33)) + 1)) v2) 83 33)) + 2)) v3) 83 33) + 1)))))) ∧ ((fX11_within v3 (-260) 260) = 0 → Vw G jX11_point 51 [some (.ref 83), none, none, none] [] (pI h 83 0 0) Q)))))))) : WM G jX11_point [.ref 83, .int v1, .int v2, .int v3] h Q :=
  WM.body (ls := [some (.ref 83), some (.int v1), some (.int v2), some (.int v3)]) rfl (by decide +kernel) rfl (Nat.le_of_ble_eq_true rfl) rfl ((bX11_point_0 hi  K))
theorem dX11_unpoint_0 : decode cX11_unpoint 0 = .ok (.aload_n 0, 1) := by decide +kernel
theorem dX11_unpoint_1 : decode cX11_unpoint 1 = .ok (.iconst 0, 1) := by decide +kernel
theorem dX11_unpoint_2 : decode cX11_unpoint 2 = .ok (.putfield 113, 3) := by decide +kernel
theorem dX11_unpoint_5 : decode cX11_unpoint 5 = .ok (.aload_n 0, 1) := by decide +kernel
theorem dX11_unpoint_6 : decode cX11_unpoint 6 = .ok (.getfield 229, 3) := by decide +kernel
theorem dX11_unpoint_9 : decode cX11_unpoint 9 = .ok (.ifCond .ne 5, 3) := by decide +kernel
theorem dX11_unpoint_12 : decode cX11_unpoint 12 = .ok (.iconst (-1), 1) := by decide +kernel
theorem dX11_unpoint_13 : decode cX11_unpoint 13 = .ok (.ireturn, 1) := by decide +kernel
theorem dX11_unpoint_14 : decode cX11_unpoint 14 = .ok (.aload_n 0, 1) := by decide +kernel
theorem dX11_unpoint_15 : decode cX11_unpoint 15 = .ok (.dup, 1) := by decide +kernel
theorem dX11_unpoint_16 : decode cX11_unpoint 16 = .ok (.getfield 229, 3) := by decide +kernel
theorem dX11_unpoint_19 : decode cX11_unpoint 19 = .ok (.iconst 1, 1) := by decide +kernel
theorem dX11_unpoint_20 : decode cX11_unpoint 20 = .ok (.isub, 1) := by decide +kernel
theorem dX11_unpoint_21 : decode cX11_unpoint 21 = .ok (.putfield 229, 3) := by decide +kernel
theorem dX11_unpoint_24 : decode cX11_unpoint 24 = .ok (.aload_n 0, 1) := by decide +kernel
theorem dX11_unpoint_25 : decode cX11_unpoint 25 = .ok (.getfield 229, 3) := by decide +kernel
theorem dX11_unpoint_28 : decode cX11_unpoint 28 = .ok (.ireturn, 1) := by decide +kernel
theorem bX11_unpoint_0 {G : GX} {h : mH} {Q : mO → mH → Prop} (hi : Iv h) (K : (¬ (gI (pI h 83 0 0) 83 33) = 0 → Q (.inl (some (.int (gI (pI (pI h 83 0 0) 83 33 ((gI (pI h 83 0 0) 83 33) - 1)) 83 33)))) (pI (pI h 83 0 0) 83 33 ((gI (pI h 83 0 0) 83 33) - 1))) ∧ ((gI (pI h 83 0 0) 83 33) = 0 → Q (.inl (some (.int (-1)))) (pI h 83 0 0))) : Vw G jX11_unpoint 0 [some (.ref 83)] [] h Q :=
  s_aload_n dX11_unpoint_0 rfl (s_iconst 0 dX11_unpoint_1 (by decide) (s_putI dX11_unpoint_2 flX11_113 ff10_0 rfl (hi.sh rfl rfl) (s_aload_n dX11_unpoint_5 rfl (s_getI dX11_unpoint_6 flX11_229 (Or.inl rfl) (hi.sh rfl rfl) (s_if_ne 14 dX11_unpoint_9 rfl (fun q5 => s_aload_n dX11_unpoint_14 rfl (s_dupr dX11_unpoint_15 (s_getI dX11_unpoint_16 flX11_229 (Or.inl rfl) (hi.sh rfl rfl) (s_iconst 1 dX11_unpoint_19 (by decide) (s_isub dX11_unpoint_20 (s_putI dX11_unpoint_21 flX11_229 ff10_33 rfl (hi.sh rfl rfl) (s_aload_n dX11_unpoint_24 rfl (s_getI dX11_unpoint_25 flX11_229 (Or.inl rfl) (hi.sh rfl rfl) (s_ireturn dX11_unpoint_28 rfl (K.1 q5)))))))))) (fun q5 => s_iconst (-1) dX11_unpoint_12 (by decide) (s_ireturn dX11_unpoint_13 rfl (K.2 q5))))))))
theorem eX11_unpoint {G : GX} {h : mH} {Q : mO → mH → Prop} (hi : Iv h) (K : (¬ (gI (pI h 83 0 0) 83 33) = 0 → Q (.inl (some (.int (gI (pI (pI h 83 0 0) 83 33 ((gI (pI h 83 0 0) 83 33) - 1)) 83 33)))) (pI (pI h 83 0 0) 83 33 ((gI (pI h 83 0 0) 83 33) - 1))) ∧ ((gI (pI h 83 0 0) 83 33) = 0 → Q (.inl (some (.int (-1)))) (pI h 83 0 0))) : WM G jX11_unpoint [.ref 83] h Q :=
  WM.body (ls := [some (.ref 83)]) rfl (by decide +kernel) rfl (Nat.le_of_ble_eq_true rfl) rfl ((bX11_unpoint_0 hi  K))
theorem dX11_offOf_0 : decode cX11_offOf 0 = .ok (.iconst 0, 1) := by decide +kernel
theorem dX11_offOf_1 : decode cX11_offOf 1 = .ok (.istore_n 2, 1) := by decide +kernel
theorem dX11_offOf_2 : decode cX11_offOf 2 = .ok (.iconst 0, 1) := by decide +kernel
theorem dX11_offOf_3 : decode cX11_offOf 3 = .ok (.istore_n 3, 1) := by decide +kernel
theorem dX11_offOf_4 : decode cX11_offOf 4 = .ok (.iload_n 3, 1) := by decide +kernel
theorem dX11_offOf_5 : decode cX11_offOf 5 = .ok (.iconst 2, 1) := by decide +kernel
theorem dX11_offOf_6 : decode cX11_offOf 6 = .ok (.if_icmp .ge 110, 3) := by decide +kernel
theorem dX11_offOf_9 : decode cX11_offOf 9 = .ok (.aload_n 0, 1) := by decide +kernel
theorem dX11_offOf_10 : decode cX11_offOf 10 = .ok (.aload_n 0, 1) := by decide +kernel
theorem dX11_offOf_11 : decode cX11_offOf 11 = .ok (.getfield 62, 3) := by decide +kernel
theorem dX11_offOf_14 : decode cX11_offOf 14 = .ok (.iconst 0, 1) := by decide +kernel
theorem dX11_offOf_15 : decode cX11_offOf 15 = .ok (.aload_n 0, 1) := by decide +kernel
theorem dX11_offOf_16 : decode cX11_offOf 16 = .ok (.getfield 59, 3) := by decide +kernel
theorem dX11_offOf_19 : decode cX11_offOf 19 = .ok (.iconst 3, 1) := by decide +kernel
theorem dX11_offOf_20 : decode cX11_offOf 20 = .ok (.iload_n 1, 1) := by decide +kernel
theorem dX11_offOf_21 : decode cX11_offOf 21 = .ok (.imul, 1) := by decide +kernel
theorem dX11_offOf_22 : decode cX11_offOf 22 = .ok (.iaload, 1) := by decide +kernel
theorem dX11_offOf_23 : decode cX11_offOf 23 = .ok (.iload_n 3, 1) := by decide +kernel
theorem dX11_offOf_24 : decode cX11_offOf 24 = .ok (.invokevirtual 256, 3) := by decide +kernel
theorem dX11_offOf_27 : decode cX11_offOf 27 = .ok (.istore 4, 2) := by decide +kernel
theorem dX11_offOf_29 : decode cX11_offOf 29 = .ok (.iconst 0, 1) := by decide +kernel
theorem dX11_offOf_30 : decode cX11_offOf 30 = .ok (.istore 5, 2) := by decide +kernel
theorem dX11_offOf_32 : decode cX11_offOf 32 = .ok (.iload 5, 2) := by decide +kernel
theorem dX11_offOf_34 : decode cX11_offOf 34 = .ok (.aload_n 0, 1) := by decide +kernel
theorem dX11_offOf_35 : decode cX11_offOf 35 = .ok (.getfield 219, 3) := by decide +kernel
theorem dX11_offOf_38 : decode cX11_offOf 38 = .ok (.if_icmp .ge 51, 3) := by decide +kernel
theorem dX11_offOf_41 : decode cX11_offOf 41 = .ok (.iload 4, 2) := by decide +kernel
theorem dX11_offOf_43 : decode cX11_offOf 43 = .ok (.aload_n 0, 1) := by decide +kernel
theorem dX11_offOf_44 : decode cX11_offOf 44 = .ok (.getfield 22, 3) := by decide +kernel
theorem dX11_offOf_47 : decode cX11_offOf 47 = .ok (.iconst 3, 1) := by decide +kernel
theorem dX11_offOf_48 : decode cX11_offOf 48 = .ok (.iload 5, 2) := by decide +kernel
theorem dX11_offOf_50 : decode cX11_offOf 50 = .ok (.imul, 1) := by decide +kernel
theorem dX11_offOf_51 : decode cX11_offOf 51 = .ok (.iaload, 1) := by decide +kernel
theorem dX11_offOf_52 : decode cX11_offOf 52 = .ok (.aload_n 0, 1) := by decide +kernel
theorem dX11_offOf_53 : decode cX11_offOf 53 = .ok (.getfield 59, 3) := by decide +kernel
theorem dX11_offOf_56 : decode cX11_offOf 56 = .ok (.iconst 3, 1) := by decide +kernel
theorem dX11_offOf_57 : decode cX11_offOf 57 = .ok (.iload_n 1, 1) := by decide +kernel
theorem dX11_offOf_58 : decode cX11_offOf 58 = .ok (.imul, 1) := by decide +kernel
theorem dX11_offOf_59 : decode cX11_offOf 59 = .ok (.iaload, 1) := by decide +kernel
theorem dX11_offOf_60 : decode cX11_offOf 60 = .ok (.if_icmp .gt 19, 3) := by decide +kernel
theorem dX11_offOf_63 : decode cX11_offOf 63 = .ok (.aload_n 0, 1) := by decide +kernel
theorem dX11_offOf_64 : decode cX11_offOf 64 = .ok (.getfield 22, 3) := by decide +kernel
theorem dX11_offOf_67 : decode cX11_offOf 67 = .ok (.iconst 3, 1) := by decide +kernel
theorem dX11_offOf_68 : decode cX11_offOf 68 = .ok (.iload 5, 2) := by decide +kernel
theorem dX11_offOf_70 : decode cX11_offOf 70 = .ok (.imul, 1) := by decide +kernel
theorem dX11_offOf_71 : decode cX11_offOf 71 = .ok (.iconst 1, 1) := by decide +kernel
theorem dX11_offOf_72 : decode cX11_offOf 72 = .ok (.iadd, 1) := by decide +kernel
theorem dX11_offOf_73 : decode cX11_offOf 73 = .ok (.iload_n 3, 1) := by decide +kernel
theorem dX11_offOf_74 : decode cX11_offOf 74 = .ok (.iadd, 1) := by decide +kernel
theorem dX11_offOf_75 : decode cX11_offOf 75 = .ok (.iaload, 1) := by decide +kernel
theorem dX11_offOf_76 : decode cX11_offOf 76 = .ok (.goto 4, 3) := by decide +kernel
theorem dX11_offOf_79 : decode cX11_offOf 79 = .ok (.iconst 0, 1) := by decide +kernel
theorem dX11_offOf_80 : decode cX11_offOf 80 = .ok (.iadd, 1) := by decide +kernel
theorem dX11_offOf_81 : decode cX11_offOf 81 = .ok (.istore 4, 2) := by decide +kernel
theorem dX11_offOf_83 : decode cX11_offOf 83 = .ok (.iinc 5 1, 3) := by decide +kernel
theorem dX11_offOf_86 : decode cX11_offOf 86 = .ok (.goto (-54), 3) := by decide +kernel
theorem dX11_offOf_89 : decode cX11_offOf 89 = .ok (.iload_n 2, 1) := by decide +kernel
theorem dX11_offOf_90 : decode cX11_offOf 90 = .ok (.iload 4, 2) := by decide +kernel
theorem dX11_offOf_92 : decode cX11_offOf 92 = .ok (.aload_n 0, 1) := by decide +kernel
theorem dX11_offOf_93 : decode cX11_offOf 93 = .ok (.getfield 59, 3) := by decide +kernel
theorem dX11_offOf_96 : decode cX11_offOf 96 = .ok (.iconst 3, 1) := by decide +kernel
theorem dX11_offOf_97 : decode cX11_offOf 97 = .ok (.iload_n 1, 1) := by decide +kernel
theorem dX11_offOf_98 : decode cX11_offOf 98 = .ok (.imul, 1) := by decide +kernel
theorem dX11_offOf_99 : decode cX11_offOf 99 = .ok (.iconst 1, 1) := by decide +kernel
theorem dX11_offOf_100 : decode cX11_offOf 100 = .ok (.iadd, 1) := by decide +kernel
theorem dX11_offOf_101 : decode cX11_offOf 101 = .ok (.iload_n 3, 1) := by decide +kernel
theorem dX11_offOf_102 : decode cX11_offOf 102 = .ok (.iadd, 1) := by decide +kernel
theorem dX11_offOf_103 : decode cX11_offOf 103 = .ok (.iaload, 1) := by decide +kernel
theorem dX11_offOf_104 : decode cX11_offOf 104 = .ok (.isub, 1) := by decide +kernel
theorem dX11_offOf_105 : decode cX11_offOf 105 = .ok (.invokestatic 279, 3) := by decide +kernel
theorem dX11_offOf_108 : decode cX11_offOf 108 = .ok (.iadd, 1) := by decide +kernel
theorem dX11_offOf_109 : decode cX11_offOf 109 = .ok (.istore_n 2, 1) := by decide +kernel
theorem dX11_offOf_110 : decode cX11_offOf 110 = .ok (.iinc 3 1, 3) := by decide +kernel
theorem dX11_offOf_113 : decode cX11_offOf 113 = .ok (.goto (-109), 3) := by decide +kernel
theorem dX11_offOf_116 : decode cX11_offOf 116 = .ok (.iload_n 2, 1) := by decide +kernel
theorem dX11_offOf_117 : decode cX11_offOf 117 = .ok (.ireturn, 1) := by decide +kernel
theorem bX11_offOf_0 {G : GX} {h : mH} {Q : mO → mH → Prop} {v1 : Int32} (hi : Iv h) (K : Vw G jX11_offOf 4 [some (.ref 83), some (.int v1), some (.int 0), some (.int 0), none, none] [] h Q) : Vw G jX11_offOf 0 [some (.ref 83), some (.int v1), none, none, none, none] [] h Q :=
  s_iconst 0 dX11_offOf_0 (by decide) (s_istore_n dX11_offOf_1 (Nat.le_of_ble_eq_true rfl) rfl (s_iconst 0 dX11_offOf_2 (by decide) (s_istore_n dX11_offOf_3 (Nat.le_of_ble_eq_true rfl) rfl (K))))
theorem bX11_offOf_4 {G : GX} {h : mH} {Q : mO → mH → Prop} {v1 : Int32} {v2 : Int32} {v3 : Int32} (hi : Iv h) (K : (2 ≤ v3 → Q (.inl (some (.int v2))) h) ∧ (¬ 2 ≤ v3 → (vp_in (3 * v1) 18 ∧ WM G jX11_penOf [.ref 83, .ref 100, .int 0, .int (gI h 99 (Int32.toNatClampNeg (3 * v1))), .int v3] h (Aft G jX11_offOf 24 [some (.ref 83), some (.int v1), some (.int v2), some (.int v3), none, none] [] Q)))) : Vw G jX11_offOf 4 [some (.ref 83), some (.int v1), some (.int v2), some (.int v3), none, none] [] h Q :=
  s_iload_n dX11_offOf_4 rfl (s_iconst 2 dX11_offOf_5 (by decide) (s_icmp_ge 116 dX11_offOf_6 rfl (fun q2 => s_iload_n dX11_offOf_116 rfl (s_ireturn dX11_offOf_117 rfl (K.1 q2))) (fun q2 => s_aload_n dX11_offOf_9 rfl (s_aload_n dX11_offOf_10 rfl (s_getR (v := .ref 100) dX11_offOf_11 flX11_62 rfl (hi.sh rfl rfl) (hi.rf (o := 83) (k := 35) (d := 17) rfl rfl) (s_iconst 0 dX11_offOf_14 (by decide) (s_aload_n dX11_offOf_15 rfl (s_getR (v := .ref 99) dX11_offOf_16 flX11_59 rfl (hi.sh rfl rfl) (hi.rf (o := 83) (k := 34) (d := 16) rfl rfl) (s_iconst 3 dX11_offOf_19 (by decide) (s_iload_n dX11_offOf_20 rfl (s_imul dX11_offOf_21 (s_iaload dX11_offOf_22 (hi.sh rfl rfl) (K.2 q2).1 (s_iload_n dX11_offOf_23 rfl (s_callV (As := [.ref 100, .int 0, .int (gI h 99 (Int32.toNatClampNeg (3 * v1))), .int v3]) dX11_offOf_24 rfl lvX11_256 ⟨Nat.le_of_ble_eq_true rfl, Nat.le_of_ble_eq_true rfl⟩ (hi.sh rfl rfl) ⟨_, _, by decide, rfl⟩ rfl (Nat.le_of_ble_eq_true rfl) ((K.2 q2).2)))))))))))))))
theorem bX11_offOf_27 {G : GX} {h : mH} {Q : mO → mH → Prop} {v1 : Int32} {v2 : Int32} {v3 : Int32} {vs0 : Int32} (hi : Iv h) (K : Vw G jX11_offOf 32 [some (.ref 83), some (.int v1), some (.int v2), some (.int v3), some (.int vs0), some (.int 0)] [] h Q) : Vw G jX11_offOf 27 [some (.ref 83), some (.int v1), some (.int v2), some (.int v3), none, none] [.int vs0] h Q :=
  s_istore dX11_offOf_27 (Nat.le_of_ble_eq_true rfl) rfl (s_iconst 0 dX11_offOf_29 (by decide) (s_istore dX11_offOf_30 (Nat.le_of_ble_eq_true rfl) rfl (K)))
theorem bX11_offOf_32 {G : GX} {h : mH} {Q : mO → mH → Prop} {v1 : Int32} {v2 : Int32} {v3 : Int32} {v4 : Int32} {v5 : Int32} (hi : Iv h) (K : ((gI h 83 2) ≤ v5 → (vp_in (((3 * v1) + 1) + v3) 18 ∧ Vw G jX11_offOf 4 [some (.ref 83), some (.int v1), some (.int (v2 + (fX11_size (v4 - (gI h 99 (Int32.toNatClampNeg (((3 * v1) + 1) + v3))))))), some (.int (v3 + 1)), none, none] [] h Q)) ∧ (¬ (gI h 83 2) ≤ v5 → (vp_in (3 * v5) 12 ∧ (vp_in (3 * v1) 18 ∧ (((gI h 99 (Int32.toNatClampNeg (3 * v1))) < (gI h 88 (Int32.toNatClampNeg (3 * v5))) → Vw G jX11_offOf 32 [some (.ref 83), some (.int v1), some (.int v2), some (.int v3), some (.int (v4 + 0)), some (.int (v5 + 1))] [] h Q) ∧ (¬ (gI h 99 (Int32.toNatClampNeg (3 * v1))) < (gI h 88 (Int32.toNatClampNeg (3 * v5))) → (vp_in (((3 * v5) + 1) + v3) 12 ∧ Vw G jX11_offOf 32 [some (.ref 83), some (.int v1), some (.int v2), some (.int v3), some (.int (v4 + (gI h 88 (Int32.toNatClampNeg (((3 * v5) + 1) + v3))))), some (.int (v5 + 1))] [] h Q))))))) : Vw G jX11_offOf 32 [some (.ref 83), some (.int v1), some (.int v2), some (.int v3), some (.int v4), some (.int v5)] [] h Q :=
  s_iload dX11_offOf_32 rfl (s_aload_n dX11_offOf_34 rfl (s_getI dX11_offOf_35 flX11_219 (Or.inl rfl) (hi.sh rfl rfl) (s_icmp_ge 89 dX11_offOf_38 rfl (fun q3 => s_iload_n dX11_offOf_89 rfl (s_iload dX11_offOf_90 rfl (s_aload_n dX11_offOf_92 rfl (s_getR (v := .ref 99) dX11_offOf_93 flX11_59 rfl (hi.sh rfl rfl) (hi.rf (o := 83) (k := 34) (d := 16) rfl rfl) (s_iconst 3 dX11_offOf_96 (by decide) (s_iload_n dX11_offOf_97 rfl (s_imul dX11_offOf_98 (s_iconst 1 dX11_offOf_99 (by decide) (s_iadd dX11_offOf_100 (s_iload_n dX11_offOf_101 rfl (s_iadd dX11_offOf_102 (s_iaload dX11_offOf_103 (hi.sh rfl rfl) (K.1 q3).1 (s_isub dX11_offOf_104 (s_callS (As := [.int (v4 - (gI h 99 (Int32.toNatClampNeg (((3 * v1) + 1) + v3))))]) dX11_offOf_105 rfl lsX11_279 ⟨Nat.le_of_ble_eq_true rfl, Nat.le_of_ble_eq_true rfl⟩ rfl (Nat.le_of_ble_eq_true rfl) (mX11_size   (s_iadd dX11_offOf_108 (s_istore_n dX11_offOf_109 (Nat.le_of_ble_eq_true rfl) rfl (s_iinc 1 dX11_offOf_110 rfl (by decide) (Nat.le_of_ble_eq_true rfl) rfl (s_goto 4 dX11_offOf_113 rfl (Vw.mask [true, true, true, true, false, false] ((K.1 q3).2))))))))))))))))))))) (fun q3 => s_iload dX11_offOf_41 rfl (s_aload_n dX11_offOf_43 rfl (s_getR (v := .ref 88) dX11_offOf_44 flX11_22 rfl (hi.sh rfl rfl) (hi.rf (o := 83) (k := 7) (d := 5) rfl rfl) (s_iconst 3 dX11_offOf_47 (by decide) (s_iload dX11_offOf_48 rfl (s_imul dX11_offOf_50 (s_iaload dX11_offOf_51 (hi.sh rfl rfl) (K.2 q3).1 (s_aload_n dX11_offOf_52 rfl (s_getR (v := .ref 99) dX11_offOf_53 flX11_59 rfl (hi.sh rfl rfl) (hi.rf (o := 83) (k := 34) (d := 16) rfl rfl) (s_iconst 3 dX11_offOf_56 (by decide) (s_iload_n dX11_offOf_57 rfl (s_imul dX11_offOf_58 (s_iaload dX11_offOf_59 (hi.sh rfl rfl) (K.2 q3).2.1 (s_icmp_gt 79 dX11_offOf_60 rfl (fun q17 => s_iconst 0 dX11_offOf_79 (by decide) (s_iadd dX11_offOf_80 (s_istore dX11_offOf_81 (Nat.le_of_ble_eq_true rfl) rfl (s_iinc 1 dX11_offOf_83 rfl (by decide) (Nat.le_of_ble_eq_true rfl) rfl (s_goto 32 dX11_offOf_86 rfl (((K.2 q3).2.2.1 q17))))))) (fun q17 => s_aload_n dX11_offOf_63 rfl (s_getR (v := .ref 88) dX11_offOf_64 flX11_22 rfl (hi.sh rfl rfl) (hi.rf (o := 83) (k := 7) (d := 5) rfl rfl) (s_iconst 3 dX11_offOf_67 (by decide) (s_iload dX11_offOf_68 rfl (s_imul dX11_offOf_70 (s_iconst 1 dX11_offOf_71 (by decide) (s_iadd dX11_offOf_72 (s_iload_n dX11_offOf_73 rfl (s_iadd dX11_offOf_74 (s_iaload dX11_offOf_75 (hi.sh rfl rfl) ((K.2 q3).2.2.2 q17).1 (s_goto 80 dX11_offOf_76 rfl (s_iadd dX11_offOf_80 (s_istore dX11_offOf_81 (Nat.le_of_ble_eq_true rfl) rfl (s_iinc 1 dX11_offOf_83 rfl (by decide) (Nat.le_of_ble_eq_true rfl) rfl (s_goto 32 dX11_offOf_86 rfl (((K.2 q3).2.2.2 q17).2)))))))))))))))))))))))))))))))))
theorem eX11_offOf {G : GX} {h : mH} {Q : mO → mH → Prop} {v1 : Int32} (hi : Iv h) (K : Vw G jX11_offOf 4 [some (.ref 83), some (.int v1), some (.int 0), some (.int 0), none, none] [] h Q) : WM G jX11_offOf [.ref 83, .int v1] h Q :=
  WM.body (ls := [some (.ref 83), some (.int v1), none, none, none, none]) rfl (by decide +kernel) rfl (Nat.le_of_ble_eq_true rfl) rfl ((bX11_offOf_0 hi  K))
theorem dX11_fits_0 : decode cX11_fits 0 = .ok (.aload_n 0, 1) := by decide +kernel
theorem dX11_fits_1 : decode cX11_fits 1 = .ok (.iconst 0, 1) := by decide +kernel
theorem dX11_fits_2 : decode cX11_fits 2 = .ok (.putfield 113, 3) := by decide +kernel
theorem dX11_fits_5 : decode cX11_fits 5 = .ok (.aload_n 0, 1) := by decide +kernel
theorem dX11_fits_6 : decode cX11_fits 6 = .ok (.iload_n 3, 1) := by decide +kernel
theorem dX11_fits_7 : decode cX11_fits 7 = .ok (.iconst 0, 1) := by decide +kernel
theorem dX11_fits_8 : decode cX11_fits 8 = .ok (.iconst 3, 1) := by decide +kernel
theorem dX11_fits_9 : decode cX11_fits 9 = .ok (.invokestatic 238, 3) := by decide +kernel
theorem dX11_fits_12 : decode cX11_fits 12 = .ok (.iconst 1, 1) := by decide +kernel
theorem dX11_fits_13 : decode cX11_fits 13 = .ok (.invokevirtual 209, 3) := by decide +kernel
theorem dX11_fits_16 : decode cX11_fits 16 = .ok (.ifCond .eq 35, 3) := by decide +kernel
theorem dX11_fits_19 : decode cX11_fits 19 = .ok (.aload_n 0, 1) := by decide +kernel
theorem dX11_fits_20 : decode cX11_fits 20 = .ok (.iload_n 1, 1) := by decide +kernel
theorem dX11_fits_21 : decode cX11_fits 21 = .ok (.iconst 0, 1) := by decide +kernel
theorem dX11_fits_22 : decode cX11_fits 22 = .ok (.iconst 5, 1) := by decide +kernel
theorem dX11_fits_23 : decode cX11_fits 23 = .ok (.invokestatic 238, 3) := by decide +kernel
theorem dX11_fits_26 : decode cX11_fits 26 = .ok (.ifCond .eq 17, 3) := by decide +kernel
theorem dX11_fits_29 : decode cX11_fits 29 = .ok (.iload_n 2, 1) := by decide +kernel
theorem dX11_fits_30 : decode cX11_fits 30 = .ok (.iconst 0, 1) := by decide +kernel
theorem dX11_fits_31 : decode cX11_fits 31 = .ok (.bipush 99, 2) := by decide +kernel
theorem dX11_fits_33 : decode cX11_fits 33 = .ok (.invokestatic 238, 3) := by decide +kernel
theorem dX11_fits_36 : decode cX11_fits 36 = .ok (.ifCond .eq 7, 3) := by decide +kernel
theorem dX11_fits_39 : decode cX11_fits 39 = .ok (.iconst 1, 1) := by decide +kernel
theorem dX11_fits_40 : decode cX11_fits 40 = .ok (.goto 4, 3) := by decide +kernel
theorem dX11_fits_43 : decode cX11_fits 43 = .ok (.iconst 0, 1) := by decide +kernel
theorem dX11_fits_44 : decode cX11_fits 44 = .ok (.iconst 2, 1) := by decide +kernel
theorem dX11_fits_45 : decode cX11_fits 45 = .ok (.invokevirtual 209, 3) := by decide +kernel
theorem dX11_fits_48 : decode cX11_fits 48 = .ok (.ifCond .ne 5, 3) := by decide +kernel
theorem dX11_fits_51 : decode cX11_fits 51 = .ok (.iconst 0, 1) := by decide +kernel
theorem dX11_fits_52 : decode cX11_fits 52 = .ok (.ireturn, 1) := by decide +kernel
theorem dX11_fits_53 : decode cX11_fits 53 = .ok (.aload_n 0, 1) := by decide +kernel
theorem dX11_fits_54 : decode cX11_fits 54 = .ok (.aload_n 0, 1) := by decide +kernel
theorem dX11_fits_55 : decode cX11_fits 55 = .ok (.getfield 19, 3) := by decide +kernel
theorem dX11_fits_58 : decode cX11_fits 58 = .ok (.aload_n 0, 1) := by decide +kernel
theorem dX11_fits_59 : decode cX11_fits 59 = .ok (.getfield 62, 3) := by decide +kernel
theorem dX11_fits_62 : decode cX11_fits 62 = .ok (.invokevirtual 222, 3) := by decide +kernel
theorem dX11_fits_65 : decode cX11_fits 65 = .ok (.iconst 0, 1) := by decide +kernel
theorem dX11_fits_66 : decode cX11_fits 66 = .ok (.istore 4, 2) := by decide +kernel
theorem dX11_fits_68 : decode cX11_fits 68 = .ok (.iconst (-1), 1) := by decide +kernel
theorem dX11_fits_69 : decode cX11_fits 69 = .ok (.istore 5, 2) := by decide +kernel
theorem dX11_fits_71 : decode cX11_fits 71 = .ok (.iconst (-1), 1) := by decide +kernel
theorem dX11_fits_72 : decode cX11_fits 72 = .ok (.istore 6, 2) := by decide +kernel
theorem dX11_fits_74 : decode cX11_fits 74 = .ok (.iconst 0, 1) := by decide +kernel
theorem dX11_fits_75 : decode cX11_fits 75 = .ok (.istore 7, 2) := by decide +kernel
theorem dX11_fits_77 : decode cX11_fits 77 = .ok (.iconst 0, 1) := by decide +kernel
theorem dX11_fits_78 : decode cX11_fits 78 = .ok (.istore 8, 2) := by decide +kernel
theorem dX11_fits_80 : decode cX11_fits 80 = .ok (.iload 8, 2) := by decide +kernel
theorem dX11_fits_82 : decode cX11_fits 82 = .ok (.sipush 10000, 3) := by decide +kernel
theorem dX11_fits_85 : decode cX11_fits 85 = .ok (.if_icmp .ge 188, 3) := by decide +kernel
theorem dX11_fits_88 : decode cX11_fits 88 = .ok (.iload 8, 2) := by decide +kernel
theorem dX11_fits_90 : decode cX11_fits 90 = .ok (.istore 9, 2) := by decide +kernel
theorem dX11_fits_92 : decode cX11_fits 92 = .ok (.iconst 1, 1) := by decide +kernel
theorem dX11_fits_93 : decode cX11_fits 93 = .ok (.istore 10, 2) := by decide +kernel
theorem dX11_fits_95 : decode cX11_fits 95 = .ok (.iconst 3, 1) := by decide +kernel
theorem dX11_fits_96 : decode cX11_fits 96 = .ok (.istore 11, 2) := by decide +kernel
theorem dX11_fits_98 : decode cX11_fits 98 = .ok (.iload 11, 2) := by decide +kernel
theorem dX11_fits_100 : decode cX11_fits 100 = .ok (.ifCond .lt 51, 3) := by decide +kernel
theorem dX11_fits_103 : decode cX11_fits 103 = .ok (.aload_n 0, 1) := by decide +kernel
theorem dX11_fits_104 : decode cX11_fits 104 = .ok (.getfield 62, 3) := by decide +kernel
theorem dX11_fits_107 : decode cX11_fits 107 = .ok (.iload 11, 2) := by decide +kernel
theorem dX11_fits_109 : decode cX11_fits 109 = .ok (.iload 9, 2) := by decide +kernel
theorem dX11_fits_111 : decode cX11_fits 111 = .ok (.bipush 10, 2) := by decide +kernel
theorem dX11_fits_113 : decode cX11_fits 113 = .ok (.irem, 1) := by decide +kernel
theorem dX11_fits_114 : decode cX11_fits 114 = .ok (.iastore, 1) := by decide +kernel
theorem dX11_fits_115 : decode cX11_fits 115 = .ok (.iload 10, 2) := by decide +kernel
theorem dX11_fits_117 : decode cX11_fits 117 = .ok (.ifCond .eq 18, 3) := by decide +kernel
theorem dX11_fits_120 : decode cX11_fits 120 = .ok (.aload_n 0, 1) := by decide +kernel
theorem dX11_fits_121 : decode cX11_fits 121 = .ok (.getfield 62, 3) := by decide +kernel
theorem dX11_fits_124 : decode cX11_fits 124 = .ok (.iload 11, 2) := by decide +kernel
theorem dX11_fits_126 : decode cX11_fits 126 = .ok (.iaload, 1) := by decide +kernel
theorem dX11_fits_127 : decode cX11_fits 127 = .ok (.iload_n 1, 1) := by decide +kernel
theorem dX11_fits_128 : decode cX11_fits 128 = .ok (.if_icmp .gt 7, 3) := by decide +kernel
theorem dX11_fits_131 : decode cX11_fits 131 = .ok (.iconst 1, 1) := by decide +kernel
theorem dX11_fits_132 : decode cX11_fits 132 = .ok (.goto 4, 3) := by decide +kernel
theorem dX11_fits_135 : decode cX11_fits 135 = .ok (.iconst 0, 1) := by decide +kernel
theorem dX11_fits_136 : decode cX11_fits 136 = .ok (.istore 10, 2) := by decide +kernel
theorem dX11_fits_138 : decode cX11_fits 138 = .ok (.iload 9, 2) := by decide +kernel
theorem dX11_fits_140 : decode cX11_fits 140 = .ok (.bipush 10, 2) := by decide +kernel
theorem dX11_fits_142 : decode cX11_fits 142 = .ok (.idiv, 1) := by decide +kernel
theorem dX11_fits_143 : decode cX11_fits 143 = .ok (.istore 9, 2) := by decide +kernel
theorem dX11_fits_145 : decode cX11_fits 145 = .ok (.iinc 11 (-1), 3) := by decide +kernel
theorem dX11_fits_148 : decode cX11_fits 148 = .ok (.goto (-50), 3) := by decide +kernel
theorem dX11_fits_151 : decode cX11_fits 151 = .ok (.iload 10, 2) := by decide +kernel
theorem dX11_fits_153 : decode cX11_fits 153 = .ok (.ifCond .ne 6, 3) := by decide +kernel
theorem dX11_fits_156 : decode cX11_fits 156 = .ok (.goto 111, 3) := by decide +kernel
theorem dX11_fits_159 : decode cX11_fits 159 = .ok (.iconst 0, 1) := by decide +kernel
theorem dX11_fits_160 : decode cX11_fits 160 = .ok (.istore 11, 2) := by decide +kernel
theorem dX11_fits_162 : decode cX11_fits 162 = .ok (.iconst 0, 1) := by decide +kernel
theorem dX11_fits_163 : decode cX11_fits 163 = .ok (.istore 12, 2) := by decide +kernel
theorem dX11_fits_165 : decode cX11_fits 165 = .ok (.iload 12, 2) := by decide +kernel
theorem dX11_fits_167 : decode cX11_fits 167 = .ok (.aload_n 0, 1) := by decide +kernel
theorem dX11_fits_168 : decode cX11_fits 168 = .ok (.getfield 229, 3) := by decide +kernel
theorem dX11_fits_171 : decode cX11_fits 171 = .ok (.if_icmp .ge 42, 3) := by decide +kernel
theorem dX11_fits_174 : decode cX11_fits 174 = .ok (.aload_n 0, 1) := by decide +kernel
theorem dX11_fits_175 : decode cX11_fits 175 = .ok (.iload 12, 2) := by decide +kernel
theorem dX11_fits_177 : decode cX11_fits 177 = .ok (.invokevirtual 301, 3) := by decide +kernel
theorem dX11_fits_180 : decode cX11_fits 180 = .ok (.istore 13, 2) := by decide +kernel
theorem dX11_fits_182 : decode cX11_fits 182 = .ok (.iload 11, 2) := by decide +kernel
theorem dX11_fits_184 : decode cX11_fits 184 = .ok (.iload 13, 2) := by decide +kernel
theorem dX11_fits_186 : decode cX11_fits 186 = .ok (.iadd, 1) := by decide +kernel
theorem dX11_fits_187 : decode cX11_fits 187 = .ok (.istore 11, 2) := by decide +kernel
theorem dX11_fits_189 : decode cX11_fits 189 = .ok (.iload 10, 2) := by decide +kernel
theorem dX11_fits_191 : decode cX11_fits 191 = .ok (.ifCond .eq 13, 3) := by decide +kernel
theorem dX11_fits_194 : decode cX11_fits 194 = .ok (.iload 13, 2) := by decide +kernel
theorem dX11_fits_196 : decode cX11_fits 196 = .ok (.iload_n 2, 1) := by decide +kernel
theorem dX11_fits_197 : decode cX11_fits 197 = .ok (.if_icmp .gt 7, 3) := by decide +kernel
theorem dX11_fits_200 : decode cX11_fits 200 = .ok (.iconst 1, 1) := by decide +kernel
theorem dX11_fits_201 : decode cX11_fits 201 = .ok (.goto 4, 3) := by decide +kernel
theorem dX11_fits_204 : decode cX11_fits 204 = .ok (.iconst 0, 1) := by decide +kernel
theorem dX11_fits_205 : decode cX11_fits 205 = .ok (.istore 10, 2) := by decide +kernel
theorem dX11_fits_207 : decode cX11_fits 207 = .ok (.iinc 12 1, 3) := by decide +kernel
theorem dX11_fits_210 : decode cX11_fits 210 = .ok (.goto (-45), 3) := by decide +kernel
theorem dX11_fits_213 : decode cX11_fits 213 = .ok (.iload 10, 2) := by decide +kernel
theorem dX11_fits_215 : decode cX11_fits 215 = .ok (.ifCond .eq 13, 3) := by decide +kernel
theorem dX11_fits_218 : decode cX11_fits 218 = .ok (.iload 5, 2) := by decide +kernel
theorem dX11_fits_220 : decode cX11_fits 220 = .ok (.iconst (-1), 1) := by decide +kernel
theorem dX11_fits_221 : decode cX11_fits 221 = .ok (.if_icmp .ne 7, 3) := by decide +kernel
theorem dX11_fits_224 : decode cX11_fits 224 = .ok (.iload 8, 2) := by decide +kernel
theorem dX11_fits_226 : decode cX11_fits 226 = .ok (.istore 5, 2) := by decide +kernel
theorem dX11_fits_228 : decode cX11_fits 228 = .ok (.iload 4, 2) := by decide +kernel
theorem dX11_fits_230 : decode cX11_fits 230 = .ok (.iload 10, 2) := by decide +kernel
theorem dX11_fits_232 : decode cX11_fits 232 = .ok (.ifCond .eq 7, 3) := by decide +kernel
theorem dX11_fits_235 : decode cX11_fits 235 = .ok (.iconst 1, 1) := by decide +kernel
theorem dX11_fits_236 : decode cX11_fits 236 = .ok (.goto 4, 3) := by decide +kernel
theorem dX11_fits_239 : decode cX11_fits 239 = .ok (.iconst 0, 1) := by decide +kernel
theorem dX11_fits_240 : decode cX11_fits 240 = .ok (.iadd, 1) := by decide +kernel
theorem dX11_fits_241 : decode cX11_fits 241 = .ok (.istore 4, 2) := by decide +kernel
theorem dX11_fits_243 : decode cX11_fits 243 = .ok (.iload 6, 2) := by decide +kernel
theorem dX11_fits_245 : decode cX11_fits 245 = .ok (.iconst (-1), 1) := by decide +kernel
theorem dX11_fits_246 : decode cX11_fits 246 = .ok (.if_icmp .eq 13, 3) := by decide +kernel
theorem dX11_fits_249 : decode cX11_fits 249 = .ok (.iload 11, 2) := by decide +kernel
theorem dX11_fits_251 : decode cX11_fits 251 = .ok (.iload 7, 2) := by decide +kernel
theorem dX11_fits_253 : decode cX11_fits 253 = .ok (.if_icmp .lt 6, 3) := by decide +kernel
theorem dX11_fits_256 : decode cX11_fits 256 = .ok (.goto 11, 3) := by decide +kernel
theorem dX11_fits_259 : decode cX11_fits 259 = .ok (.iload 8, 2) := by decide +kernel
theorem dX11_fits_261 : decode cX11_fits 261 = .ok (.istore 6, 2) := by decide +kernel
theorem dX11_fits_263 : decode cX11_fits 263 = .ok (.iload 11, 2) := by decide +kernel
theorem dX11_fits_265 : decode cX11_fits 265 = .ok (.istore 7, 2) := by decide +kernel
theorem dX11_fits_267 : decode cX11_fits 267 = .ok (.iinc 8 1, 3) := by decide +kernel
theorem dX11_fits_270 : decode cX11_fits 270 = .ok (.goto (-190), 3) := by decide +kernel
theorem dX11_fits_273 : decode cX11_fits 273 = .ok (.iload_n 3, 1) := by decide +kernel
theorem dX11_fits_274 : decode cX11_fits 274 = .ok (.ifCond .ne 8, 3) := by decide +kernel
theorem dX11_fits_277 : decode cX11_fits 277 = .ok (.iload 4, 2) := by decide +kernel
theorem dX11_fits_279 : decode cX11_fits 279 = .ok (.goto 25, 3) := by decide +kernel
theorem dX11_fits_282 : decode cX11_fits 282 = .ok (.iload_n 3, 1) := by decide +kernel
theorem dX11_fits_283 : decode cX11_fits 283 = .ok (.iconst 1, 1) := by decide +kernel
theorem dX11_fits_284 : decode cX11_fits 284 = .ok (.if_icmp .ne 8, 3) := by decide +kernel
theorem dX11_fits_287 : decode cX11_fits 287 = .ok (.iload 5, 2) := by decide +kernel
theorem dX11_fits_289 : decode cX11_fits 289 = .ok (.goto 15, 3) := by decide +kernel
theorem dX11_fits_292 : decode cX11_fits 292 = .ok (.iload_n 3, 1) := by decide +kernel
theorem dX11_fits_293 : decode cX11_fits 293 = .ok (.iconst 2, 1) := by decide +kernel
theorem dX11_fits_294 : decode cX11_fits 294 = .ok (.if_icmp .ne 8, 3) := by decide +kernel
theorem dX11_fits_297 : decode cX11_fits 297 = .ok (.iload 6, 2) := by decide +kernel
theorem dX11_fits_299 : decode cX11_fits 299 = .ok (.goto 5, 3) := by decide +kernel
theorem dX11_fits_302 : decode cX11_fits 302 = .ok (.iload 7, 2) := by decide +kernel
theorem dX11_fits_304 : decode cX11_fits 304 = .ok (.ireturn, 1) := by decide +kernel
theorem bX11_fits_0 {G : GX} {h : mH} {Q : mO → mH → Prop} {v1 : Int32} {v2 : Int32} {v3 : Int32} (hi : Iv h) (K : WM G jX11_right [.ref 83, .int (fX11_within v3 0 3), .int 1] (pI h 83 0 0) (Aft G jX11_fits 13 [some (.ref 83), some (.int v1), some (.int v2), some (.int v3), none, none, none, none, none, none, none, none, none, none] [] Q)) : Vw G jX11_fits 0 [some (.ref 83), some (.int v1), some (.int v2), some (.int v3), none, none, none, none, none, none, none, none, none, none] [] h Q :=
  s_aload_n dX11_fits_0 rfl (s_iconst 0 dX11_fits_1 (by decide) (s_putI dX11_fits_2 flX11_113 ff10_0 rfl (hi.sh rfl rfl) (s_aload_n dX11_fits_5 rfl (s_iload_n dX11_fits_6 rfl (s_iconst 0 dX11_fits_7 (by decide) (s_iconst 3 dX11_fits_8 (by decide) (s_callS (As := [.int v3, .int 0, .int 3]) dX11_fits_9 rfl lsX11_238 ⟨Nat.le_of_ble_eq_true rfl, Nat.le_of_ble_eq_true rfl⟩ rfl (Nat.le_of_ble_eq_true rfl) (mX11_within   (s_iconst 1 dX11_fits_12 (by decide) (s_callV (As := [.int (fX11_within v3 0 3), .int 1]) dX11_fits_13 rfl lvX11_209 ⟨Nat.le_of_ble_eq_true rfl, Nat.le_of_ble_eq_true rfl⟩ (hi.sh rfl rfl) ⟨_, _, by decide, rfl⟩ rfl (Nat.le_of_ble_eq_true rfl) (K)))))))))))
theorem bX11_fits_16 {G : GX} {h : mH} {Q : mO → mH → Prop} {v1 : Int32} {v2 : Int32} {v3 : Int32} {vs0 : Int32} (hi : Iv h) (K : (vs0 = 0 → Q (.inl (some (.int 0))) h) ∧ (¬ vs0 = 0 → (((fX11_within v1 0 5) = 0 → WM G jX11_right [.ref 83, .int 0, .int 2] h (Aft G jX11_fits 45 [some (.ref 83), some (.int v1), some (.int v2), some (.int v3), none, none, none, none, none, none, none, none, none, none] [] Q)) ∧ (¬ (fX11_within v1 0 5) = 0 → (((fX11_within v2 0 99) = 0 → WM G jX11_right [.ref 83, .int 0, .int 2] h (Aft G jX11_fits 45 [some (.ref 83), some (.int v1), some (.int v2), some (.int v3), none, none, none, none, none, none, none, none, none, none] [] Q)) ∧ (¬ (fX11_within v2 0 99) = 0 → WM G jX11_right [.ref 83, .int 1, .int 2] h (Aft G jX11_fits 45 [some (.ref 83), some (.int v1), some (.int v2), some (.int v3), none, none, none, none, none, none, none, none, none, none] [] Q))))))) : Vw G jX11_fits 16 [some (.ref 83), some (.int v1), some (.int v2), some (.int v3), none, none, none, none, none, none, none, none, none, none] [.int vs0] h Q :=
  s_if_eq 51 dX11_fits_16 rfl (fun q0 => s_iconst 0 dX11_fits_51 (by decide) (s_ireturn dX11_fits_52 rfl (K.1 q0))) (fun q0 => s_aload_n dX11_fits_19 rfl (s_iload_n dX11_fits_20 rfl (s_iconst 0 dX11_fits_21 (by decide) (s_iconst 5 dX11_fits_22 (by decide) (s_callS (As := [.int v1, .int 0, .int 5]) dX11_fits_23 rfl lsX11_238 ⟨Nat.le_of_ble_eq_true rfl, Nat.le_of_ble_eq_true rfl⟩ rfl (Nat.le_of_ble_eq_true rfl) (mX11_within   (s_if_eq 43 dX11_fits_26 rfl (fun q6 => s_iconst 0 dX11_fits_43 (by decide) (s_iconst 2 dX11_fits_44 (by decide) (s_callV (As := [.int 0, .int 2]) dX11_fits_45 rfl lvX11_209 ⟨Nat.le_of_ble_eq_true rfl, Nat.le_of_ble_eq_true rfl⟩ (hi.sh rfl rfl) ⟨_, _, by decide, rfl⟩ rfl (Nat.le_of_ble_eq_true rfl) (((K.2 q0).1 q6))))) (fun q6 => s_iload_n dX11_fits_29 rfl (s_iconst 0 dX11_fits_30 (by decide) (s_bipush 99 dX11_fits_31 (by decide) (s_callS (As := [.int v2, .int 0, .int 99]) dX11_fits_33 rfl lsX11_238 ⟨Nat.le_of_ble_eq_true rfl, Nat.le_of_ble_eq_true rfl⟩ rfl (Nat.le_of_ble_eq_true rfl) (mX11_within   (s_if_eq 43 dX11_fits_36 rfl (fun q11 => s_iconst 0 dX11_fits_43 (by decide) (s_iconst 2 dX11_fits_44 (by decide) (s_callV (As := [.int 0, .int 2]) dX11_fits_45 rfl lvX11_209 ⟨Nat.le_of_ble_eq_true rfl, Nat.le_of_ble_eq_true rfl⟩ (hi.sh rfl rfl) ⟨_, _, by decide, rfl⟩ rfl (Nat.le_of_ble_eq_true rfl) ((((K.2 q0).2 q6).1 q11))))) (fun q11 => s_iconst 1 dX11_fits_39 (by decide) (s_goto 44 dX11_fits_40 rfl (s_iconst 2 dX11_fits_44 (by decide) (s_callV (As := [.int 1, .int 2]) dX11_fits_45 rfl lvX11_209 ⟨Nat.le_of_ble_eq_true rfl, Nat.le_of_ble_eq_true rfl⟩ (hi.sh rfl rfl) ⟨_, _, by decide, rfl⟩ rfl (Nat.le_of_ble_eq_true rfl) ((((K.2 q0).2 q6).2 q11)))))))))))))))))))
theorem bX11_fits_48 {G : GX} {h : mH} {Q : mO → mH → Prop} {v1 : Int32} {v2 : Int32} {v3 : Int32} {vs0 : Int32} (hi : Iv h) (K : (¬ vs0 = 0 → WM G jX11_copies [.ref 83, .ref 87, .ref 100] h (Aft G jX11_fits 62 [some (.ref 83), some (.int v1), some (.int v2), some (.int v3), none, none, none, none, none, none, none, none, none, none] [] Q)) ∧ (vs0 = 0 → Q (.inl (some (.int 0))) h)) : Vw G jX11_fits 48 [some (.ref 83), some (.int v1), some (.int v2), some (.int v3), none, none, none, none, none, none, none, none, none, none] [.int vs0] h Q :=
  s_if_ne 53 dX11_fits_48 rfl (fun q0 => s_aload_n dX11_fits_53 rfl (s_aload_n dX11_fits_54 rfl (s_getR (v := .ref 87) dX11_fits_55 flX11_19 rfl (hi.sh rfl rfl) (hi.rf (o := 83) (k := 6) (d := 4) rfl rfl) (s_aload_n dX11_fits_58 rfl (s_getR (v := .ref 100) dX11_fits_59 flX11_62 rfl (hi.sh rfl rfl) (hi.rf (o := 83) (k := 35) (d := 17) rfl rfl) (s_callV (As := [.ref 87, .ref 100]) dX11_fits_62 rfl lvX11_222 ⟨Nat.le_of_ble_eq_true rfl, Nat.le_of_ble_eq_true rfl⟩ (hi.sh rfl rfl) ⟨_, _, by decide, rfl⟩ rfl (Nat.le_of_ble_eq_true rfl) ((K.1 q0)))))))) (fun q0 => s_iconst 0 dX11_fits_51 (by decide) (s_ireturn dX11_fits_52 rfl (K.2 q0)))
theorem bX11_fits_65 {G : GX} {h : mH} {Q : mO → mH → Prop} {v1 : Int32} {v2 : Int32} {v3 : Int32} (hi : Iv h) (K : Vw G jX11_fits 80 [some (.ref 83), some (.int v1), some (.int v2), some (.int v3), some (.int 0), some (.int (-1)), some (.int (-1)), some (.int 0), some (.int 0), none, none, none, none, none] [] h Q) : Vw G jX11_fits 65 [some (.ref 83), some (.int v1), some (.int v2), some (.int v3), none, none, none, none, none, none, none, none, none, none] [] h Q :=
  s_iconst 0 dX11_fits_65 (by decide) (s_istore dX11_fits_66 (Nat.le_of_ble_eq_true rfl) rfl (s_iconst (-1) dX11_fits_68 (by decide) (s_istore dX11_fits_69 (Nat.le_of_ble_eq_true rfl) rfl (s_iconst (-1) dX11_fits_71 (by decide) (s_istore dX11_fits_72 (Nat.le_of_ble_eq_true rfl) rfl (s_iconst 0 dX11_fits_74 (by decide) (s_istore dX11_fits_75 (Nat.le_of_ble_eq_true rfl) rfl (s_iconst 0 dX11_fits_77 (by decide) (s_istore dX11_fits_78 (Nat.le_of_ble_eq_true rfl) rfl (K))))))))))
theorem bX11_fits_80 {G : GX} {h : mH} {Q : mO → mH → Prop} {v1 : Int32} {v2 : Int32} {v3 : Int32} {v4 : Int32} {v5 : Int32} {v6 : Int32} {v7 : Int32} {v8 : Int32} (hi : Iv h) (K : (10000 ≤ v8 → ((¬ v3 = 0 → ((¬ v3 = 1 → ((¬ v3 = 2 → Q (.inl (some (.int v7))) h) ∧ (v3 = 2 → Q (.inl (some (.int v6))) h))) ∧ (v3 = 1 → Q (.inl (some (.int v5))) h))) ∧ (v3 = 0 → Q (.inl (some (.int v4))) h))) ∧ (¬ 10000 ≤ v8 → Vw G jX11_fits 98 [some (.ref 83), some (.int v1), some (.int v2), some (.int v3), some (.int v4), some (.int v5), some (.int v6), some (.int v7), some (.int v8), some (.int v8), some (.int 1), some (.int 3), none, none] [] h Q)) : Vw G jX11_fits 80 [some (.ref 83), some (.int v1), some (.int v2), some (.int v3), some (.int v4), some (.int v5), some (.int v6), some (.int v7), some (.int v8), none, none, none, none, none] [] h Q :=
  s_iload dX11_fits_80 rfl (s_sipush 10000 dX11_fits_82 (by decide) (s_icmp_ge 273 dX11_fits_85 rfl (fun q2 => s_iload_n dX11_fits_273 rfl (s_if_ne 282 dX11_fits_274 rfl (fun q4 => s_iload_n dX11_fits_282 rfl (s_iconst 1 dX11_fits_283 (by decide) (s_icmp_ne 292 dX11_fits_284 rfl (fun q7 => s_iload_n dX11_fits_292 rfl (s_iconst 2 dX11_fits_293 (by decide) (s_icmp_ne 302 dX11_fits_294 rfl (fun q10 => s_iload dX11_fits_302 rfl (s_ireturn dX11_fits_304 rfl ((((K.1 q2).1 q4).1 q7).1 q10))) (fun q10 => s_iload dX11_fits_297 rfl (s_goto 304 dX11_fits_299 rfl (s_ireturn dX11_fits_304 rfl ((((K.1 q2).1 q4).1 q7).2 q10))))))) (fun q7 => s_iload dX11_fits_287 rfl (s_goto 304 dX11_fits_289 rfl (s_ireturn dX11_fits_304 rfl (((K.1 q2).1 q4).2 q7))))))) (fun q4 => s_iload dX11_fits_277 rfl (s_goto 304 dX11_fits_279 rfl (s_ireturn dX11_fits_304 rfl ((K.1 q2).2 q4)))))) (fun q2 => s_iload dX11_fits_88 rfl (s_istore dX11_fits_90 (Nat.le_of_ble_eq_true rfl) rfl (s_iconst 1 dX11_fits_92 (by decide) (s_istore dX11_fits_93 (Nat.le_of_ble_eq_true rfl) rfl (s_iconst 3 dX11_fits_95 (by decide) (s_istore dX11_fits_96 (Nat.le_of_ble_eq_true rfl) rfl ((K.2 q2))))))))))
theorem bX11_fits_98 {G : GX} {h : mH} {Q : mO → mH → Prop} {v1 : Int32} {v2 : Int32} {v3 : Int32} {v4 : Int32} {v5 : Int32} {v6 : Int32} {v7 : Int32} {v8 : Int32} {v9 : Int32} {v10 : Int32} {v11 : Int32} (hi : Iv h) (K : (v11 < 0 → ((¬ v10 = 0 → Vw G jX11_fits 165 [some (.ref 83), some (.int v1), some (.int v2), some (.int v3), some (.int v4), some (.int v5), some (.int v6), some (.int v7), some (.int v8), none, some (.int v10), some (.int 0), some (.int 0), none] [] h Q) ∧ (v10 = 0 → Vw G jX11_fits 267 [some (.ref 83), some (.int v1), some (.int v2), some (.int v3), some (.int v4), some (.int v5), some (.int v6), some (.int v7), some (.int v8), none, none, none, none, none] [] h Q))) ∧ (¬ v11 < 0 → (vp_in v11 12 ∧ ((v10 = 0 → Vw G jX11_fits 135 [some (.ref 83), some (.int v1), some (.int v2), some (.int v3), some (.int v4), some (.int v5), some (.int v6), some (.int v7), some (.int v8), some (.int v9), none, some (.int v11), none, none] [] (pI h 100 (Int32.toNatClampNeg v11) (v9 - v9 / (10 : Int32) * (10 : Int32))) Q) ∧ (¬ v10 = 0 → (vp_in v11 12 ∧ ((v1 < (gI (pI h 100 (Int32.toNatClampNeg v11) (v9 - v9 / (10 : Int32) * (10 : Int32))) 100 (Int32.toNatClampNeg v11)) → Vw G jX11_fits 135 [some (.ref 83), some (.int v1), some (.int v2), some (.int v3), some (.int v4), some (.int v5), some (.int v6), some (.int v7), some (.int v8), some (.int v9), none, some (.int v11), none, none] [] (pI h 100 (Int32.toNatClampNeg v11) (v9 - v9 / (10 : Int32) * (10 : Int32))) Q) ∧ (¬ v1 < (gI (pI h 100 (Int32.toNatClampNeg v11) (v9 - v9 / (10 : Int32) * (10 : Int32))) 100 (Int32.toNatClampNeg v11)) → Vw G jX11_fits 98 [some (.ref 83), some (.int v1), some (.int v2), some (.int v3), some (.int v4), some (.int v5), some (.int v6), some (.int v7), some (.int v8), some (.int (v9 / (10 : Int32))), some (.int 1), some (.int (v11 + (-1))), none, none] [] (pI h 100 (Int32.toNatClampNeg v11) (v9 - v9 / (10 : Int32) * (10 : Int32))) Q)))))))) : Vw G jX11_fits 98 [some (.ref 83), some (.int v1), some (.int v2), some (.int v3), some (.int v4), some (.int v5), some (.int v6), some (.int v7), some (.int v8), some (.int v9), some (.int v10), some (.int v11), none, none] [] h Q :=
  s_iload dX11_fits_98 rfl (s_if_lt 151 dX11_fits_100 rfl (fun q1 => s_iload dX11_fits_151 rfl (s_if_ne 159 dX11_fits_153 rfl (fun q3 => s_iconst 0 dX11_fits_159 (by decide) (s_istore dX11_fits_160 (Nat.le_of_ble_eq_true rfl) rfl (s_iconst 0 dX11_fits_162 (by decide) (s_istore dX11_fits_163 (Nat.le_of_ble_eq_true rfl) rfl (Vw.mask [true, true, true, true, true, true, true, true, true, false, true, true, true, false] (((K.1 q1).1 q3))))))) (fun q3 => s_goto 267 dX11_fits_156 rfl (Vw.mask [true, true, true, true, true, true, true, true, true, false, false, false, false, false] (((K.1 q1).2 q3)))))) (fun q1 => s_aload_n dX11_fits_103 rfl (s_getR (v := .ref 100) dX11_fits_104 flX11_62 rfl (hi.sh rfl rfl) (hi.rf (o := 83) (k := 35) (d := 17) rfl rfl) (s_iload dX11_fits_107 rfl (s_iload dX11_fits_109 rfl (s_bipush 10 dX11_fits_111 (by decide) (s_irem dX11_fits_113 (by decide) (s_iastore dX11_fits_114 (hi.sh rfl rfl) (K.2 q1).1 (s_iload dX11_fits_115 rfl (s_if_eq 135 dX11_fits_117 rfl (fun q10 => Vw.mask [true, true, true, true, true, true, true, true, true, true, false, true, false, false] (((K.2 q1).2.1 q10))) (fun q10 => s_aload_n dX11_fits_120 rfl (s_getR (v := .ref 100) dX11_fits_121 flX11_62 rfl (hi.sh rfl rfl) (hi.rf (o := 83) (k := 35) (d := 17) rfl rfl) (s_iload dX11_fits_124 rfl (s_iaload dX11_fits_126 (hi.sh rfl rfl) ((K.2 q1).2.2 q10).1 (s_iload_n dX11_fits_127 rfl (s_icmp_gt 135 dX11_fits_128 rfl (fun q16 => Vw.mask [true, true, true, true, true, true, true, true, true, true, false, true, false, false] ((((K.2 q1).2.2 q10).2.1 q16))) (fun q16 => s_iconst 1 dX11_fits_131 (by decide) (s_goto 136 dX11_fits_132 rfl (s_istore dX11_fits_136 (Nat.le_of_ble_eq_true rfl) rfl (s_iload dX11_fits_138 rfl (s_bipush 10 dX11_fits_140 (by decide) (s_idiv dX11_fits_142 (by decide) (s_istore dX11_fits_143 (Nat.le_of_ble_eq_true rfl) rfl (s_iinc (-1) dX11_fits_145 rfl (by decide) (Nat.le_of_ble_eq_true rfl) rfl (s_goto 98 dX11_fits_148 rfl ((((K.2 q1).2.2 q10).2.2 q16)))))))))))))))))))))))))))
theorem bX11_fits_135 {G : GX} {h : mH} {Q : mO → mH → Prop} {v1 : Int32} {v2 : Int32} {v3 : Int32} {v4 : Int32} {v5 : Int32} {v6 : Int32} {v7 : Int32} {v8 : Int32} {v9 : Int32} {v11 : Int32} (hi : Iv h) (K : Vw G jX11_fits 98 [some (.ref 83), some (.int v1), some (.int v2), some (.int v3), some (.int v4), some (.int v5), some (.int v6), some (.int v7), some (.int v8), some (.int (v9 / (10 : Int32))), some (.int 0), some (.int (v11 + (-1))), none, none] [] h Q) : Vw G jX11_fits 135 [some (.ref 83), some (.int v1), some (.int v2), some (.int v3), some (.int v4), some (.int v5), some (.int v6), some (.int v7), some (.int v8), some (.int v9), none, some (.int v11), none, none] [] h Q :=
  s_iconst 0 dX11_fits_135 (by decide) (s_istore dX11_fits_136 (Nat.le_of_ble_eq_true rfl) rfl (s_iload dX11_fits_138 rfl (s_bipush 10 dX11_fits_140 (by decide) (s_idiv dX11_fits_142 (by decide) (s_istore dX11_fits_143 (Nat.le_of_ble_eq_true rfl) rfl (s_iinc (-1) dX11_fits_145 rfl (by decide) (Nat.le_of_ble_eq_true rfl) rfl (s_goto 98 dX11_fits_148 rfl (K))))))))
theorem bX11_fits_165 {G : GX} {h : mH} {Q : mO → mH → Prop} {v1 : Int32} {v2 : Int32} {v3 : Int32} {v4 : Int32} {v5 : Int32} {v6 : Int32} {v7 : Int32} {v8 : Int32} {v10 : Int32} {v11 : Int32} {v12 : Int32} (hi : Iv h) (K : ((gI h 83 33) ≤ v12 → ((v10 = 0 → Vw G jX11_fits 228 [some (.ref 83), some (.int v1), some (.int v2), some (.int v3), some (.int v4), some (.int v5), some (.int v6), some (.int v7), some (.int v8), none, some (.int v10), some (.int v11), none, none] [] h Q) ∧ (¬ v10 = 0 → ((¬ v5 = (-1) → Vw G jX11_fits 228 [some (.ref 83), some (.int v1), some (.int v2), some (.int v3), some (.int v4), some (.int v5), some (.int v6), some (.int v7), some (.int v8), none, some (.int v10), some (.int v11), none, none] [] h Q) ∧ (v5 = (-1) → Vw G jX11_fits 228 [some (.ref 83), some (.int v1), some (.int v2), some (.int v3), some (.int v4), some (.int v8), some (.int v6), some (.int v7), some (.int v8), none, some (.int v10), some (.int v11), none, none] [] h Q))))) ∧ (¬ (gI h 83 33) ≤ v12 → WM G jX11_offOf [.ref 83, .int v12] h (Aft G jX11_fits 177 [some (.ref 83), some (.int v1), some (.int v2), some (.int v3), some (.int v4), some (.int v5), some (.int v6), some (.int v7), some (.int v8), none, some (.int v10), some (.int v11), some (.int v12), none] [] Q))) : Vw G jX11_fits 165 [some (.ref 83), some (.int v1), some (.int v2), some (.int v3), some (.int v4), some (.int v5), some (.int v6), some (.int v7), some (.int v8), none, some (.int v10), some (.int v11), some (.int v12), none] [] h Q :=
  s_iload dX11_fits_165 rfl (s_aload_n dX11_fits_167 rfl (s_getI dX11_fits_168 flX11_229 (Or.inl rfl) (hi.sh rfl rfl) (s_icmp_ge 213 dX11_fits_171 rfl (fun q3 => s_iload dX11_fits_213 rfl (s_if_eq 228 dX11_fits_215 rfl (fun q5 => Vw.mask [true, true, true, true, true, true, true, true, true, false, true, true, false, false] (((K.1 q3).1 q5))) (fun q5 => s_iload dX11_fits_218 rfl (s_iconst (-1) dX11_fits_220 (by decide) (s_icmp_ne 228 dX11_fits_221 rfl (fun q8 => Vw.mask [true, true, true, true, true, true, true, true, true, false, true, true, false, false] ((((K.1 q3).2 q5).1 q8))) (fun q8 => s_iload dX11_fits_224 rfl (s_istore dX11_fits_226 (Nat.le_of_ble_eq_true rfl) rfl (Vw.mask [true, true, true, true, true, true, true, true, true, false, true, true, false, false] ((((K.1 q3).2 q5).2 q8)))))))))) (fun q3 => s_aload_n dX11_fits_174 rfl (s_iload dX11_fits_175 rfl (s_callV (As := [.int v12]) dX11_fits_177 rfl lvX11_301 ⟨Nat.le_of_ble_eq_true rfl, Nat.le_of_ble_eq_true rfl⟩ (hi.sh rfl rfl) ⟨_, _, by decide, rfl⟩ rfl (Nat.le_of_ble_eq_true rfl) ((K.2 q3))))))))
theorem bX11_fits_180 {G : GX} {h : mH} {Q : mO → mH → Prop} {v1 : Int32} {v2 : Int32} {v3 : Int32} {v4 : Int32} {v5 : Int32} {v6 : Int32} {v7 : Int32} {v8 : Int32} {v10 : Int32} {v11 : Int32} {v12 : Int32} {vs0 : Int32} (hi : Iv h) (K : (v10 = 0 → Vw G jX11_fits 204 [some (.ref 83), some (.int v1), some (.int v2), some (.int v3), some (.int v4), some (.int v5), some (.int v6), some (.int v7), some (.int v8), none, none, some (.int (v11 + vs0)), some (.int v12), none] [] h Q) ∧ (¬ v10 = 0 → ((v2 < vs0 → Vw G jX11_fits 204 [some (.ref 83), some (.int v1), some (.int v2), some (.int v3), some (.int v4), some (.int v5), some (.int v6), some (.int v7), some (.int v8), none, none, some (.int (v11 + vs0)), some (.int v12), none] [] h Q) ∧ (¬ v2 < vs0 → Vw G jX11_fits 165 [some (.ref 83), some (.int v1), some (.int v2), some (.int v3), some (.int v4), some (.int v5), some (.int v6), some (.int v7), some (.int v8), none, some (.int 1), some (.int (v11 + vs0)), some (.int (v12 + 1)), none] [] h Q)))) : Vw G jX11_fits 180 [some (.ref 83), some (.int v1), some (.int v2), some (.int v3), some (.int v4), some (.int v5), some (.int v6), some (.int v7), some (.int v8), none, some (.int v10), some (.int v11), some (.int v12), none] [.int vs0] h Q :=
  s_istore dX11_fits_180 (Nat.le_of_ble_eq_true rfl) rfl (s_iload dX11_fits_182 rfl (s_iload dX11_fits_184 rfl (s_iadd dX11_fits_186 (s_istore dX11_fits_187 (Nat.le_of_ble_eq_true rfl) rfl (s_iload dX11_fits_189 rfl (s_if_eq 204 dX11_fits_191 rfl (fun q6 => Vw.mask [true, true, true, true, true, true, true, true, true, false, false, true, true, false] ((K.1 q6))) (fun q6 => s_iload dX11_fits_194 rfl (s_iload_n dX11_fits_196 rfl (s_icmp_gt 204 dX11_fits_197 rfl (fun q9 => Vw.mask [true, true, true, true, true, true, true, true, true, false, false, true, true, false] (((K.2 q6).1 q9))) (fun q9 => s_iconst 1 dX11_fits_200 (by decide) (s_goto 205 dX11_fits_201 rfl (s_istore dX11_fits_205 (Nat.le_of_ble_eq_true rfl) rfl (s_iinc 1 dX11_fits_207 rfl (by decide) (Nat.le_of_ble_eq_true rfl) rfl (s_goto 165 dX11_fits_210 rfl (Vw.mask [true, true, true, true, true, true, true, true, true, false, true, true, true, false] (((K.2 q6).2 q9)))))))))))))))))
theorem bX11_fits_204 {G : GX} {h : mH} {Q : mO → mH → Prop} {v1 : Int32} {v2 : Int32} {v3 : Int32} {v4 : Int32} {v5 : Int32} {v6 : Int32} {v7 : Int32} {v8 : Int32} {v11 : Int32} {v12 : Int32} (hi : Iv h) (K : Vw G jX11_fits 165 [some (.ref 83), some (.int v1), some (.int v2), some (.int v3), some (.int v4), some (.int v5), some (.int v6), some (.int v7), some (.int v8), none, some (.int 0), some (.int v11), some (.int (v12 + 1)), none] [] h Q) : Vw G jX11_fits 204 [some (.ref 83), some (.int v1), some (.int v2), some (.int v3), some (.int v4), some (.int v5), some (.int v6), some (.int v7), some (.int v8), none, none, some (.int v11), some (.int v12), none] [] h Q :=
  s_iconst 0 dX11_fits_204 (by decide) (s_istore dX11_fits_205 (Nat.le_of_ble_eq_true rfl) rfl (s_iinc 1 dX11_fits_207 rfl (by decide) (Nat.le_of_ble_eq_true rfl) rfl (s_goto 165 dX11_fits_210 rfl (K))))
theorem bX11_fits_228 {G : GX} {h : mH} {Q : mO → mH → Prop} {v1 : Int32} {v2 : Int32} {v3 : Int32} {v4 : Int32} {v5 : Int32} {v6 : Int32} {v7 : Int32} {v8 : Int32} {v10 : Int32} {v11 : Int32} (hi : Iv h) (K : (v10 = 0 → ((v6 = (-1) → Vw G jX11_fits 259 [some (.ref 83), some (.int v1), some (.int v2), some (.int v3), some (.int (v4 + 0)), some (.int v5), none, none, some (.int v8), none, none, some (.int v11), none, none] [] h Q) ∧ (¬ v6 = (-1) → ((v11 < v7 → Vw G jX11_fits 259 [some (.ref 83), some (.int v1), some (.int v2), some (.int v3), some (.int (v4 + 0)), some (.int v5), none, none, some (.int v8), none, none, some (.int v11), none, none] [] h Q) ∧ (¬ v11 < v7 → Vw G jX11_fits 267 [some (.ref 83), some (.int v1), some (.int v2), some (.int v3), some (.int (v4 + 0)), some (.int v5), some (.int v6), some (.int v7), some (.int v8), none, none, none, none, none] [] h Q))))) ∧ (¬ v10 = 0 → ((v6 = (-1) → Vw G jX11_fits 259 [some (.ref 83), some (.int v1), some (.int v2), some (.int v3), some (.int (v4 + 1)), some (.int v5), none, none, some (.int v8), none, none, some (.int v11), none, none] [] h Q) ∧ (¬ v6 = (-1) → ((v11 < v7 → Vw G jX11_fits 259 [some (.ref 83), some (.int v1), some (.int v2), some (.int v3), some (.int (v4 + 1)), some (.int v5), none, none, some (.int v8), none, none, some (.int v11), none, none] [] h Q) ∧ (¬ v11 < v7 → Vw G jX11_fits 267 [some (.ref 83), some (.int v1), some (.int v2), some (.int v3), some (.int (v4 + 1)), some (.int v5), some (.int v6), some (.int v7), some (.int v8), none, none, none, none, none] [] h Q)))))) : Vw G jX11_fits 228 [some (.ref 83), some (.int v1), some (.int v2), some (.int v3), some (.int v4), some (.int v5), some (.int v6), some (.int v7), some (.int v8), none, some (.int v10), some (.int v11), none, none] [] h Q :=
  s_iload dX11_fits_228 rfl (s_iload dX11_fits_230 rfl (s_if_eq 239 dX11_fits_232 rfl (fun q2 => s_iconst 0 dX11_fits_239 (by decide) (s_iadd dX11_fits_240 (s_istore dX11_fits_241 (Nat.le_of_ble_eq_true rfl) rfl (s_iload dX11_fits_243 rfl (s_iconst (-1) dX11_fits_245 (by decide) (s_icmp_eq 259 dX11_fits_246 rfl (fun q8 => Vw.mask [true, true, true, true, true, true, false, false, true, false, false, true, false, false] (((K.1 q2).1 q8))) (fun q8 => s_iload dX11_fits_249 rfl (s_iload dX11_fits_251 rfl (s_icmp_lt 259 dX11_fits_253 rfl (fun q11 => Vw.mask [true, true, true, true, true, true, false, false, true, false, false, true, false, false] ((((K.1 q2).2 q8).1 q11))) (fun q11 => s_goto 267 dX11_fits_256 rfl (Vw.mask [true, true, true, true, true, true, true, true, true, false, false, false, false, false] ((((K.1 q2).2 q8).2 q11))))))))))))) (fun q2 => s_iconst 1 dX11_fits_235 (by decide) (s_goto 240 dX11_fits_236 rfl (s_iadd dX11_fits_240 (s_istore dX11_fits_241 (Nat.le_of_ble_eq_true rfl) rfl (s_iload dX11_fits_243 rfl (s_iconst (-1) dX11_fits_245 (by decide) (s_icmp_eq 259 dX11_fits_246 rfl (fun q9 => Vw.mask [true, true, true, true, true, true, false, false, true, false, false, true, false, false] (((K.2 q2).1 q9))) (fun q9 => s_iload dX11_fits_249 rfl (s_iload dX11_fits_251 rfl (s_icmp_lt 259 dX11_fits_253 rfl (fun q12 => Vw.mask [true, true, true, true, true, true, false, false, true, false, false, true, false, false] ((((K.2 q2).2 q9).1 q12))) (fun q12 => s_goto 267 dX11_fits_256 rfl (Vw.mask [true, true, true, true, true, true, true, true, true, false, false, false, false, false] ((((K.2 q2).2 q9).2 q12))))))))))))))))
theorem bX11_fits_259 {G : GX} {h : mH} {Q : mO → mH → Prop} {v1 : Int32} {v2 : Int32} {v3 : Int32} {v4 : Int32} {v5 : Int32} {v8 : Int32} {v11 : Int32} (hi : Iv h) (K : Vw G jX11_fits 267 [some (.ref 83), some (.int v1), some (.int v2), some (.int v3), some (.int v4), some (.int v5), some (.int v8), some (.int v11), some (.int v8), none, none, none, none, none] [] h Q) : Vw G jX11_fits 259 [some (.ref 83), some (.int v1), some (.int v2), some (.int v3), some (.int v4), some (.int v5), none, none, some (.int v8), none, none, some (.int v11), none, none] [] h Q :=
  s_iload dX11_fits_259 rfl (s_istore dX11_fits_261 (Nat.le_of_ble_eq_true rfl) rfl (s_iload dX11_fits_263 rfl (s_istore dX11_fits_265 (Nat.le_of_ble_eq_true rfl) rfl (Vw.mask [true, true, true, true, true, true, true, true, true, false, false, false, false, false] (K)))))
theorem bX11_fits_267 {G : GX} {h : mH} {Q : mO → mH → Prop} {v1 : Int32} {v2 : Int32} {v3 : Int32} {v4 : Int32} {v5 : Int32} {v6 : Int32} {v7 : Int32} {v8 : Int32} (hi : Iv h) (K : Vw G jX11_fits 80 [some (.ref 83), some (.int v1), some (.int v2), some (.int v3), some (.int v4), some (.int v5), some (.int v6), some (.int v7), some (.int (v8 + 1)), none, none, none, none, none] [] h Q) : Vw G jX11_fits 267 [some (.ref 83), some (.int v1), some (.int v2), some (.int v3), some (.int v4), some (.int v5), some (.int v6), some (.int v7), some (.int v8), none, none, none, none, none] [] h Q :=
  s_iinc 1 dX11_fits_267 rfl (by decide) (Nat.le_of_ble_eq_true rfl) rfl (s_goto 80 dX11_fits_270 rfl (K))
theorem eX11_fits {G : GX} {h : mH} {Q : mO → mH → Prop} {v1 : Int32} {v2 : Int32} {v3 : Int32} (hi : Iv h) (K : WM G jX11_right [.ref 83, .int (fX11_within v3 0 3), .int 1] (pI h 83 0 0) (Aft G jX11_fits 13 [some (.ref 83), some (.int v1), some (.int v2), some (.int v3), none, none, none, none, none, none, none, none, none, none] [] Q)) : WM G jX11_fits [.ref 83, .int v1, .int v2, .int v3] h Q :=
  WM.body (ls := [some (.ref 83), some (.int v1), some (.int v2), some (.int v3), none, none, none, none, none, none, none, none, none, none]) rfl (by decide +kernel) rfl (Nat.le_of_ble_eq_true rfl) rfl ((bX11_fits_0 hi  K))
theorem dX11_chord_0 : decode cX11_chord 0 = .ok (.aload_n 0, 1) := by decide +kernel
theorem dX11_chord_1 : decode cX11_chord 1 = .ok (.iconst 0, 1) := by decide +kernel
theorem dX11_chord_2 : decode cX11_chord 2 = .ok (.putfield 113, 3) := by decide +kernel
theorem dX11_chord_5 : decode cX11_chord 5 = .ok (.aload_n 0, 1) := by decide +kernel
theorem dX11_chord_6 : decode cX11_chord 6 = .ok (.iload_n 3, 1) := by decide +kernel
theorem dX11_chord_7 : decode cX11_chord 7 = .ok (.ifCond .eq 8, 3) := by decide +kernel
theorem dX11_chord_10 : decode cX11_chord 10 = .ok (.iload_n 3, 1) := by decide +kernel
theorem dX11_chord_11 : decode cX11_chord 11 = .ok (.iconst 1, 1) := by decide +kernel
theorem dX11_chord_12 : decode cX11_chord 12 = .ok (.if_icmp .ne 7, 3) := by decide +kernel
theorem dX11_chord_15 : decode cX11_chord 15 = .ok (.iconst 1, 1) := by decide +kernel
theorem dX11_chord_16 : decode cX11_chord 16 = .ok (.goto 4, 3) := by decide +kernel
theorem dX11_chord_19 : decode cX11_chord 19 = .ok (.iconst 0, 1) := by decide +kernel
theorem dX11_chord_20 : decode cX11_chord 20 = .ok (.iconst 1, 1) := by decide +kernel
theorem dX11_chord_21 : decode cX11_chord 21 = .ok (.invokevirtual 209, 3) := by decide +kernel
theorem dX11_chord_24 : decode cX11_chord 24 = .ok (.ifCond .eq 36, 3) := by decide +kernel
theorem dX11_chord_27 : decode cX11_chord 27 = .ok (.aload_n 0, 1) := by decide +kernel
theorem dX11_chord_28 : decode cX11_chord 28 = .ok (.iload_n 1, 1) := by decide +kernel
theorem dX11_chord_29 : decode cX11_chord 29 = .ok (.iconst 1, 1) := by decide +kernel
theorem dX11_chord_30 : decode cX11_chord 30 = .ok (.bipush 12, 2) := by decide +kernel
theorem dX11_chord_32 : decode cX11_chord 32 = .ok (.invokestatic 238, 3) := by decide +kernel
theorem dX11_chord_35 : decode cX11_chord 35 = .ok (.ifCond .eq 17, 3) := by decide +kernel
theorem dX11_chord_38 : decode cX11_chord 38 = .ok (.iload_n 2, 1) := by decide +kernel
theorem dX11_chord_39 : decode cX11_chord 39 = .ok (.iconst 1, 1) := by decide +kernel
theorem dX11_chord_40 : decode cX11_chord 40 = .ok (.bipush 12, 2) := by decide +kernel
theorem dX11_chord_42 : decode cX11_chord 42 = .ok (.invokestatic 238, 3) := by decide +kernel
theorem dX11_chord_45 : decode cX11_chord 45 = .ok (.ifCond .eq 7, 3) := by decide +kernel
theorem dX11_chord_48 : decode cX11_chord 48 = .ok (.iconst 1, 1) := by decide +kernel
theorem dX11_chord_49 : decode cX11_chord 49 = .ok (.goto 4, 3) := by decide +kernel
theorem dX11_chord_52 : decode cX11_chord 52 = .ok (.iconst 0, 1) := by decide +kernel
theorem dX11_chord_53 : decode cX11_chord 53 = .ok (.iconst 2, 1) := by decide +kernel
theorem dX11_chord_54 : decode cX11_chord 54 = .ok (.invokevirtual 209, 3) := by decide +kernel
theorem dX11_chord_57 : decode cX11_chord 57 = .ok (.ifCond .ne 5, 3) := by decide +kernel
theorem dX11_chord_60 : decode cX11_chord 60 = .ok (.iconst 0, 1) := by decide +kernel
theorem dX11_chord_61 : decode cX11_chord 61 = .ok (.ireturn, 1) := by decide +kernel
theorem dX11_chord_62 : decode cX11_chord 62 = .ok (.iconst (-1), 1) := by decide +kernel
theorem dX11_chord_63 : decode cX11_chord 63 = .ok (.istore 4, 2) := by decide +kernel
theorem dX11_chord_65 : decode cX11_chord 65 = .ok (.iconst 0, 1) := by decide +kernel
theorem dX11_chord_66 : decode cX11_chord 66 = .ok (.istore 5, 2) := by decide +kernel
theorem dX11_chord_68 : decode cX11_chord 68 = .ok (.iconst 0, 1) := by decide +kernel
theorem dX11_chord_69 : decode cX11_chord 69 = .ok (.istore 6, 2) := by decide +kernel
theorem dX11_chord_71 : decode cX11_chord 71 = .ok (.iload 6, 2) := by decide +kernel
theorem dX11_chord_73 : decode cX11_chord 73 = .ok (.bipush 100, 2) := by decide +kernel
theorem dX11_chord_75 : decode cX11_chord 75 = .ok (.if_icmp .ge 100, 3) := by decide +kernel
theorem dX11_chord_78 : decode cX11_chord 78 = .ok (.aload_n 0, 1) := by decide +kernel
theorem dX11_chord_79 : decode cX11_chord 79 = .ok (.getfield 13, 3) := by decide +kernel
theorem dX11_chord_82 : decode cX11_chord 82 = .ok (.iconst 0, 1) := by decide +kernel
theorem dX11_chord_83 : decode cX11_chord 83 = .ok (.iaload, 1) := by decide +kernel
theorem dX11_chord_84 : decode cX11_chord 84 = .ok (.iload 6, 2) := by decide +kernel
theorem dX11_chord_86 : decode cX11_chord 86 = .ok (.bipush 10, 2) := by decide +kernel
theorem dX11_chord_88 : decode cX11_chord 88 = .ok (.idiv, 1) := by decide +kernel
theorem dX11_chord_89 : decode cX11_chord 89 = .ok (.iadd, 1) := by decide +kernel
theorem dX11_chord_90 : decode cX11_chord 90 = .ok (.iload_n 2, 1) := by decide +kernel
theorem dX11_chord_91 : decode cX11_chord 91 = .ok (.imul, 1) := by decide +kernel
theorem dX11_chord_92 : decode cX11_chord 92 = .ok (.aload_n 0, 1) := by decide +kernel
theorem dX11_chord_93 : decode cX11_chord 93 = .ok (.getfield 13, 3) := by decide +kernel
theorem dX11_chord_96 : decode cX11_chord 96 = .ok (.iconst 2, 1) := by decide +kernel
theorem dX11_chord_97 : decode cX11_chord 97 = .ok (.iaload, 1) := by decide +kernel
theorem dX11_chord_98 : decode cX11_chord 98 = .ok (.iload 6, 2) := by decide +kernel
theorem dX11_chord_100 : decode cX11_chord 100 = .ok (.bipush 10, 2) := by decide +kernel
theorem dX11_chord_102 : decode cX11_chord 102 = .ok (.irem, 1) := by decide +kernel
theorem dX11_chord_103 : decode cX11_chord 103 = .ok (.iadd, 1) := by decide +kernel
theorem dX11_chord_104 : decode cX11_chord 104 = .ok (.iload_n 1, 1) := by decide +kernel
theorem dX11_chord_105 : decode cX11_chord 105 = .ok (.imul, 1) := by decide +kernel
theorem dX11_chord_106 : decode cX11_chord 106 = .ok (.if_icmp .eq 6, 3) := by decide +kernel
theorem dX11_chord_109 : decode cX11_chord 109 = .ok (.goto 60, 3) := by decide +kernel
theorem dX11_chord_112 : decode cX11_chord 112 = .ok (.iload 6, 2) := by decide +kernel
theorem dX11_chord_114 : decode cX11_chord 114 = .ok (.bipush 10, 2) := by decide +kernel
theorem dX11_chord_116 : decode cX11_chord 116 = .ok (.idiv, 1) := by decide +kernel
theorem dX11_chord_117 : decode cX11_chord 117 = .ok (.aload_n 0, 1) := by decide +kernel
theorem dX11_chord_118 : decode cX11_chord 118 = .ok (.getfield 19, 3) := by decide +kernel
theorem dX11_chord_121 : decode cX11_chord 121 = .ok (.iconst 0, 1) := by decide +kernel
theorem dX11_chord_122 : decode cX11_chord 122 = .ok (.iaload, 1) := by decide +kernel
theorem dX11_chord_123 : decode cX11_chord 123 = .ok (.isub, 1) := by decide +kernel
theorem dX11_chord_124 : decode cX11_chord 124 = .ok (.invokestatic 279, 3) := by decide +kernel
theorem dX11_chord_127 : decode cX11_chord 127 = .ok (.iload 6, 2) := by decide +kernel
theorem dX11_chord_129 : decode cX11_chord 129 = .ok (.bipush 10, 2) := by decide +kernel
theorem dX11_chord_131 : decode cX11_chord 131 = .ok (.irem, 1) := by decide +kernel
theorem dX11_chord_132 : decode cX11_chord 132 = .ok (.aload_n 0, 1) := by decide +kernel
theorem dX11_chord_133 : decode cX11_chord 133 = .ok (.getfield 19, 3) := by decide +kernel
theorem dX11_chord_136 : decode cX11_chord 136 = .ok (.iconst 2, 1) := by decide +kernel
theorem dX11_chord_137 : decode cX11_chord 137 = .ok (.iaload, 1) := by decide +kernel
theorem dX11_chord_138 : decode cX11_chord 138 = .ok (.isub, 1) := by decide +kernel
theorem dX11_chord_139 : decode cX11_chord 139 = .ok (.invokestatic 279, 3) := by decide +kernel
theorem dX11_chord_142 : decode cX11_chord 142 = .ok (.iadd, 1) := by decide +kernel
theorem dX11_chord_143 : decode cX11_chord 143 = .ok (.istore 7, 2) := by decide +kernel
theorem dX11_chord_145 : decode cX11_chord 145 = .ok (.iload 4, 2) := by decide +kernel
theorem dX11_chord_147 : decode cX11_chord 147 = .ok (.iconst (-1), 1) := by decide +kernel
theorem dX11_chord_148 : decode cX11_chord 148 = .ok (.if_icmp .eq 13, 3) := by decide +kernel
theorem dX11_chord_151 : decode cX11_chord 151 = .ok (.iload 7, 2) := by decide +kernel
theorem dX11_chord_153 : decode cX11_chord 153 = .ok (.iload 5, 2) := by decide +kernel
theorem dX11_chord_155 : decode cX11_chord 155 = .ok (.if_icmp .lt 6, 3) := by decide +kernel
theorem dX11_chord_158 : decode cX11_chord 158 = .ok (.goto 11, 3) := by decide +kernel
theorem dX11_chord_161 : decode cX11_chord 161 = .ok (.iload 6, 2) := by decide +kernel
theorem dX11_chord_163 : decode cX11_chord 163 = .ok (.istore 4, 2) := by decide +kernel
theorem dX11_chord_165 : decode cX11_chord 165 = .ok (.iload 7, 2) := by decide +kernel
theorem dX11_chord_167 : decode cX11_chord 167 = .ok (.istore 5, 2) := by decide +kernel
theorem dX11_chord_169 : decode cX11_chord 169 = .ok (.iinc 6 1, 3) := by decide +kernel
theorem dX11_chord_172 : decode cX11_chord 172 = .ok (.goto (-101), 3) := by decide +kernel
theorem dX11_chord_175 : decode cX11_chord 175 = .ok (.iload 4, 2) := by decide +kernel
theorem dX11_chord_177 : decode cX11_chord 177 = .ok (.iconst (-1), 1) := by decide +kernel
theorem dX11_chord_178 : decode cX11_chord 178 = .ok (.if_icmp .eq 8, 3) := by decide +kernel
theorem dX11_chord_181 : decode cX11_chord 181 = .ok (.iload_n 3, 1) := by decide +kernel
theorem dX11_chord_182 : decode cX11_chord 182 = .ok (.iconst 1, 1) := by decide +kernel
theorem dX11_chord_183 : decode cX11_chord 183 = .ok (.if_icmp .ne 8, 3) := by decide +kernel
theorem dX11_chord_186 : decode cX11_chord 186 = .ok (.iload 4, 2) := by decide +kernel
theorem dX11_chord_188 : decode cX11_chord 188 = .ok (.goto 5, 3) := by decide +kernel
theorem dX11_chord_191 : decode cX11_chord 191 = .ok (.iload 5, 2) := by decide +kernel
theorem dX11_chord_193 : decode cX11_chord 193 = .ok (.ireturn, 1) := by decide +kernel
theorem bX11_chord_0 {G : GX} {h : mH} {Q : mO → mH → Prop} {v1 : Int32} {v2 : Int32} {v3 : Int32} (hi : Iv h) (K : (v3 = 0 → WM G jX11_right [.ref 83, .int 1, .int 1] (pI h 83 0 0) (Aft G jX11_chord 21 [some (.ref 83), some (.int v1), some (.int v2), some (.int v3), none, none, none, none] [] Q)) ∧ (¬ v3 = 0 → ((¬ v3 = 1 → WM G jX11_right [.ref 83, .int 0, .int 1] (pI h 83 0 0) (Aft G jX11_chord 21 [some (.ref 83), some (.int v1), some (.int v2), some (.int v3), none, none, none, none] [] Q)) ∧ (v3 = 1 → WM G jX11_right [.ref 83, .int 1, .int 1] (pI h 83 0 0) (Aft G jX11_chord 21 [some (.ref 83), some (.int v1), some (.int v2), some (.int v3), none, none, none, none] [] Q))))) : Vw G jX11_chord 0 [some (.ref 83), some (.int v1), some (.int v2), some (.int v3), none, none, none, none] [] h Q :=
  s_aload_n dX11_chord_0 rfl (s_iconst 0 dX11_chord_1 (by decide) (s_putI dX11_chord_2 flX11_113 ff10_0 rfl (hi.sh rfl rfl) (s_aload_n dX11_chord_5 rfl (s_iload_n dX11_chord_6 rfl (s_if_eq 15 dX11_chord_7 rfl (fun q5 => s_iconst 1 dX11_chord_15 (by decide) (s_goto 20 dX11_chord_16 rfl (s_iconst 1 dX11_chord_20 (by decide) (s_callV (As := [.int 1, .int 1]) dX11_chord_21 rfl lvX11_209 ⟨Nat.le_of_ble_eq_true rfl, Nat.le_of_ble_eq_true rfl⟩ (hi.sh rfl rfl) ⟨_, _, by decide, rfl⟩ rfl (Nat.le_of_ble_eq_true rfl) ((K.1 q5)))))) (fun q5 => s_iload_n dX11_chord_10 rfl (s_iconst 1 dX11_chord_11 (by decide) (s_icmp_ne 19 dX11_chord_12 rfl (fun q8 => s_iconst 0 dX11_chord_19 (by decide) (s_iconst 1 dX11_chord_20 (by decide) (s_callV (As := [.int 0, .int 1]) dX11_chord_21 rfl lvX11_209 ⟨Nat.le_of_ble_eq_true rfl, Nat.le_of_ble_eq_true rfl⟩ (hi.sh rfl rfl) ⟨_, _, by decide, rfl⟩ rfl (Nat.le_of_ble_eq_true rfl) (((K.2 q5).1 q8))))) (fun q8 => s_iconst 1 dX11_chord_15 (by decide) (s_goto 20 dX11_chord_16 rfl (s_iconst 1 dX11_chord_20 (by decide) (s_callV (As := [.int 1, .int 1]) dX11_chord_21 rfl lvX11_209 ⟨Nat.le_of_ble_eq_true rfl, Nat.le_of_ble_eq_true rfl⟩ (hi.sh rfl rfl) ⟨_, _, by decide, rfl⟩ rfl (Nat.le_of_ble_eq_true rfl) (((K.2 q5).2 q8))))))))))))))
theorem bX11_chord_24 {G : GX} {h : mH} {Q : mO → mH → Prop} {v1 : Int32} {v2 : Int32} {v3 : Int32} {vs0 : Int32} (hi : Iv h) (K : (vs0 = 0 → Q (.inl (some (.int 0))) h) ∧ (¬ vs0 = 0 → (((fX11_within v1 1 12) = 0 → WM G jX11_right [.ref 83, .int 0, .int 2] h (Aft G jX11_chord 54 [some (.ref 83), some (.int v1), some (.int v2), some (.int v3), none, none, none, none] [] Q)) ∧ (¬ (fX11_within v1 1 12) = 0 → (((fX11_within v2 1 12) = 0 → WM G jX11_right [.ref 83, .int 0, .int 2] h (Aft G jX11_chord 54 [some (.ref 83), some (.int v1), some (.int v2), some (.int v3), none, none, none, none] [] Q)) ∧ (¬ (fX11_within v2 1 12) = 0 → WM G jX11_right [.ref 83, .int 1, .int 2] h (Aft G jX11_chord 54 [some (.ref 83), some (.int v1), some (.int v2), some (.int v3), none, none, none, none] [] Q))))))) : Vw G jX11_chord 24 [some (.ref 83), some (.int v1), some (.int v2), some (.int v3), none, none, none, none] [.int vs0] h Q :=
  s_if_eq 60 dX11_chord_24 rfl (fun q0 => s_iconst 0 dX11_chord_60 (by decide) (s_ireturn dX11_chord_61 rfl (K.1 q0))) (fun q0 => s_aload_n dX11_chord_27 rfl (s_iload_n dX11_chord_28 rfl (s_iconst 1 dX11_chord_29 (by decide) (s_bipush 12 dX11_chord_30 (by decide) (s_callS (As := [.int v1, .int 1, .int 12]) dX11_chord_32 rfl lsX11_238 ⟨Nat.le_of_ble_eq_true rfl, Nat.le_of_ble_eq_true rfl⟩ rfl (Nat.le_of_ble_eq_true rfl) (mX11_within   (s_if_eq 52 dX11_chord_35 rfl (fun q6 => s_iconst 0 dX11_chord_52 (by decide) (s_iconst 2 dX11_chord_53 (by decide) (s_callV (As := [.int 0, .int 2]) dX11_chord_54 rfl lvX11_209 ⟨Nat.le_of_ble_eq_true rfl, Nat.le_of_ble_eq_true rfl⟩ (hi.sh rfl rfl) ⟨_, _, by decide, rfl⟩ rfl (Nat.le_of_ble_eq_true rfl) (((K.2 q0).1 q6))))) (fun q6 => s_iload_n dX11_chord_38 rfl (s_iconst 1 dX11_chord_39 (by decide) (s_bipush 12 dX11_chord_40 (by decide) (s_callS (As := [.int v2, .int 1, .int 12]) dX11_chord_42 rfl lsX11_238 ⟨Nat.le_of_ble_eq_true rfl, Nat.le_of_ble_eq_true rfl⟩ rfl (Nat.le_of_ble_eq_true rfl) (mX11_within   (s_if_eq 52 dX11_chord_45 rfl (fun q11 => s_iconst 0 dX11_chord_52 (by decide) (s_iconst 2 dX11_chord_53 (by decide) (s_callV (As := [.int 0, .int 2]) dX11_chord_54 rfl lvX11_209 ⟨Nat.le_of_ble_eq_true rfl, Nat.le_of_ble_eq_true rfl⟩ (hi.sh rfl rfl) ⟨_, _, by decide, rfl⟩ rfl (Nat.le_of_ble_eq_true rfl) ((((K.2 q0).2 q6).1 q11))))) (fun q11 => s_iconst 1 dX11_chord_48 (by decide) (s_goto 53 dX11_chord_49 rfl (s_iconst 2 dX11_chord_53 (by decide) (s_callV (As := [.int 1, .int 2]) dX11_chord_54 rfl lvX11_209 ⟨Nat.le_of_ble_eq_true rfl, Nat.le_of_ble_eq_true rfl⟩ (hi.sh rfl rfl) ⟨_, _, by decide, rfl⟩ rfl (Nat.le_of_ble_eq_true rfl) ((((K.2 q0).2 q6).2 q11)))))))))))))))))))
theorem bX11_chord_57 {G : GX} {h : mH} {Q : mO → mH → Prop} {v1 : Int32} {v2 : Int32} {v3 : Int32} {vs0 : Int32} (hi : Iv h) (K : (¬ vs0 = 0 → Vw G jX11_chord 71 [some (.ref 83), some (.int v1), some (.int v2), some (.int v3), some (.int (-1)), some (.int 0), some (.int 0), none] [] h Q) ∧ (vs0 = 0 → Q (.inl (some (.int 0))) h)) : Vw G jX11_chord 57 [some (.ref 83), some (.int v1), some (.int v2), some (.int v3), none, none, none, none] [.int vs0] h Q :=
  s_if_ne 62 dX11_chord_57 rfl (fun q0 => s_iconst (-1) dX11_chord_62 (by decide) (s_istore dX11_chord_63 (Nat.le_of_ble_eq_true rfl) rfl (s_iconst 0 dX11_chord_65 (by decide) (s_istore dX11_chord_66 (Nat.le_of_ble_eq_true rfl) rfl (s_iconst 0 dX11_chord_68 (by decide) (s_istore dX11_chord_69 (Nat.le_of_ble_eq_true rfl) rfl ((K.1 q0)))))))) (fun q0 => s_iconst 0 dX11_chord_60 (by decide) (s_ireturn dX11_chord_61 rfl (K.2 q0)))
theorem bX11_chord_71 {G : GX} {h : mH} {Q : mO → mH → Prop} {v1 : Int32} {v2 : Int32} {v3 : Int32} {v4 : Int32} {v5 : Int32} {v6 : Int32} (hi : Iv h) (K : (100 ≤ v6 → ((v4 = (-1) → Q (.inl (some (.int v4))) h) ∧ (¬ v4 = (-1) → ((¬ v3 = 1 → Q (.inl (some (.int v5))) h) ∧ (v3 = 1 → Q (.inl (some (.int v4))) h))))) ∧ (¬ 100 ≤ v6 → (((((gI h 85 0) + (v6 / (10 : Int32))) * v2) = (((gI h 85 2) + (v6 - v6 / (10 : Int32) * (10 : Int32))) * v1) → ((v4 = (-1) → Vw G jX11_chord 161 [some (.ref 83), some (.int v1), some (.int v2), some (.int v3), none, none, some (.int v6), some (.int ((fX11_size ((v6 / (10 : Int32)) - (gI h 87 0))) + (fX11_size ((v6 - v6 / (10 : Int32) * (10 : Int32)) - (gI h 87 2)))))] [] h Q) ∧ (¬ v4 = (-1) → ((((fX11_size ((v6 / (10 : Int32)) - (gI h 87 0))) + (fX11_size ((v6 - v6 / (10 : Int32) * (10 : Int32)) - (gI h 87 2)))) < v5 → Vw G jX11_chord 161 [some (.ref 83), some (.int v1), some (.int v2), some (.int v3), none, none, some (.int v6), some (.int ((fX11_size ((v6 / (10 : Int32)) - (gI h 87 0))) + (fX11_size ((v6 - v6 / (10 : Int32) * (10 : Int32)) - (gI h 87 2)))))] [] h Q) ∧ (¬ ((fX11_size ((v6 / (10 : Int32)) - (gI h 87 0))) + (fX11_size ((v6 - v6 / (10 : Int32) * (10 : Int32)) - (gI h 87 2)))) < v5 → Vw G jX11_chord 169 [some (.ref 83), some (.int v1), some (.int v2), some (.int v3), some (.int v4), some (.int v5), some (.int v6), none] [] h Q))))) ∧ (¬ (((gI h 85 0) + (v6 / (10 : Int32))) * v2) = (((gI h 85 2) + (v6 - v6 / (10 : Int32) * (10 : Int32))) * v1) → Vw G jX11_chord 169 [some (.ref 83), some (.int v1), some (.int v2), some (.int v3), some (.int v4), some (.int v5), some (.int v6), none] [] h Q)))) : Vw G jX11_chord 71 [some (.ref 83), some (.int v1), some (.int v2), some (.int v3), some (.int v4), some (.int v5), some (.int v6), none] [] h Q :=
  s_iload dX11_chord_71 rfl (s_bipush 100 dX11_chord_73 (by decide) (s_icmp_ge 175 dX11_chord_75 rfl (fun q2 => s_iload dX11_chord_175 rfl (s_iconst (-1) dX11_chord_177 (by decide) (s_icmp_eq 186 dX11_chord_178 rfl (fun q5 => s_iload dX11_chord_186 rfl (s_goto 193 dX11_chord_188 rfl (s_ireturn dX11_chord_193 rfl ((K.1 q2).1 q5)))) (fun q5 => s_iload_n dX11_chord_181 rfl (s_iconst 1 dX11_chord_182 (by decide) (s_icmp_ne 191 dX11_chord_183 rfl (fun q8 => s_iload dX11_chord_191 rfl (s_ireturn dX11_chord_193 rfl (((K.1 q2).2 q5).1 q8))) (fun q8 => s_iload dX11_chord_186 rfl (s_goto 193 dX11_chord_188 rfl (s_ireturn dX11_chord_193 rfl (((K.1 q2).2 q5).2 q8)))))))))) (fun q2 => s_aload_n dX11_chord_78 rfl (s_getR (v := .ref 85) dX11_chord_79 flX11_13 rfl (hi.sh rfl rfl) (hi.rf (o := 83) (k := 4) (d := 2) rfl rfl) (s_iconst 0 dX11_chord_82 (by decide) (s_iaload dX11_chord_83 (hi.sh rfl rfl) (by unfold vp_in; decide) (s_iload dX11_chord_84 rfl (s_bipush 10 dX11_chord_86 (by decide) (s_idiv dX11_chord_88 (by decide) (s_iadd dX11_chord_89 (s_iload_n dX11_chord_90 rfl (s_imul dX11_chord_91 (s_aload_n dX11_chord_92 rfl (s_getR (v := .ref 85) dX11_chord_93 flX11_13 rfl (hi.sh rfl rfl) (hi.rf (o := 83) (k := 4) (d := 2) rfl rfl) (s_iconst 2 dX11_chord_96 (by decide) (s_iaload dX11_chord_97 (hi.sh rfl rfl) (by unfold vp_in; decide) (s_iload dX11_chord_98 rfl (s_bipush 10 dX11_chord_100 (by decide) (s_irem dX11_chord_102 (by decide) (s_iadd dX11_chord_103 (s_iload_n dX11_chord_104 rfl (s_imul dX11_chord_105 (s_icmp_eq 112 dX11_chord_106 rfl (fun q23 => s_iload dX11_chord_112 rfl (s_bipush 10 dX11_chord_114 (by decide) (s_idiv dX11_chord_116 (by decide) (s_aload_n dX11_chord_117 rfl (s_getR (v := .ref 87) dX11_chord_118 flX11_19 rfl (hi.sh rfl rfl) (hi.rf (o := 83) (k := 6) (d := 4) rfl rfl) (s_iconst 0 dX11_chord_121 (by decide) (s_iaload dX11_chord_122 (hi.sh rfl rfl) (by unfold vp_in; decide) (s_isub dX11_chord_123 (s_callS (As := [.int ((v6 / (10 : Int32)) - (gI h 87 0))]) dX11_chord_124 rfl lsX11_279 ⟨Nat.le_of_ble_eq_true rfl, Nat.le_of_ble_eq_true rfl⟩ rfl (Nat.le_of_ble_eq_true rfl) (mX11_size   (s_iload dX11_chord_127 rfl (s_bipush 10 dX11_chord_129 (by decide) (s_irem dX11_chord_131 (by decide) (s_aload_n dX11_chord_132 rfl (s_getR (v := .ref 87) dX11_chord_133 flX11_19 rfl (hi.sh rfl rfl) (hi.rf (o := 83) (k := 6) (d := 4) rfl rfl) (s_iconst 2 dX11_chord_136 (by decide) (s_iaload dX11_chord_137 (hi.sh rfl rfl) (by unfold vp_in; decide) (s_isub dX11_chord_138 (s_callS (As := [.int ((v6 - v6 / (10 : Int32) * (10 : Int32)) - (gI h 87 2))]) dX11_chord_139 rfl lsX11_279 ⟨Nat.le_of_ble_eq_true rfl, Nat.le_of_ble_eq_true rfl⟩ rfl (Nat.le_of_ble_eq_true rfl) (mX11_size   (s_iadd dX11_chord_142 (s_istore dX11_chord_143 (Nat.le_of_ble_eq_true rfl) rfl (s_iload dX11_chord_145 rfl (s_iconst (-1) dX11_chord_147 (by decide) (s_icmp_eq 161 dX11_chord_148 rfl (fun q46 => Vw.mask [true, true, true, true, false, false, true, true] ((((K.2 q2).1 q23).1 q46))) (fun q46 => s_iload dX11_chord_151 rfl (s_iload dX11_chord_153 rfl (s_icmp_lt 161 dX11_chord_155 rfl (fun q49 => Vw.mask [true, true, true, true, false, false, true, true] (((((K.2 q2).1 q23).2 q46).1 q49))) (fun q49 => s_goto 169 dX11_chord_158 rfl (Vw.mask [true, true, true, true, true, true, true, false] (((((K.2 q2).1 q23).2 q46).2 q49)))))))))))))))))))))))))))))))) (fun q23 => s_goto 169 dX11_chord_109 rfl (((K.2 q2).2 q23))))))))))))))))))))))))))
theorem bX11_chord_161 {G : GX} {h : mH} {Q : mO → mH → Prop} {v1 : Int32} {v2 : Int32} {v3 : Int32} {v6 : Int32} {v7 : Int32} (hi : Iv h) (K : Vw G jX11_chord 169 [some (.ref 83), some (.int v1), some (.int v2), some (.int v3), some (.int v6), some (.int v7), some (.int v6), none] [] h Q) : Vw G jX11_chord 161 [some (.ref 83), some (.int v1), some (.int v2), some (.int v3), none, none, some (.int v6), some (.int v7)] [] h Q :=
  s_iload dX11_chord_161 rfl (s_istore dX11_chord_163 (Nat.le_of_ble_eq_true rfl) rfl (s_iload dX11_chord_165 rfl (s_istore dX11_chord_167 (Nat.le_of_ble_eq_true rfl) rfl (Vw.mask [true, true, true, true, true, true, true, false] (K)))))
theorem bX11_chord_169 {G : GX} {h : mH} {Q : mO → mH → Prop} {v1 : Int32} {v2 : Int32} {v3 : Int32} {v4 : Int32} {v5 : Int32} {v6 : Int32} (hi : Iv h) (K : Vw G jX11_chord 71 [some (.ref 83), some (.int v1), some (.int v2), some (.int v3), some (.int v4), some (.int v5), some (.int (v6 + 1)), none] [] h Q) : Vw G jX11_chord 169 [some (.ref 83), some (.int v1), some (.int v2), some (.int v3), some (.int v4), some (.int v5), some (.int v6), none] [] h Q :=
  s_iinc 1 dX11_chord_169 rfl (by decide) (Nat.le_of_ble_eq_true rfl) rfl (s_goto 71 dX11_chord_172 rfl (K))
theorem eX11_chord {G : GX} {h : mH} {Q : mO → mH → Prop} {v1 : Int32} {v2 : Int32} {v3 : Int32} (hi : Iv h) (K : (v3 = 0 → WM G jX11_right [.ref 83, .int 1, .int 1] (pI h 83 0 0) (Aft G jX11_chord 21 [some (.ref 83), some (.int v1), some (.int v2), some (.int v3), none, none, none, none] [] Q)) ∧ (¬ v3 = 0 → ((¬ v3 = 1 → WM G jX11_right [.ref 83, .int 0, .int 1] (pI h 83 0 0) (Aft G jX11_chord 21 [some (.ref 83), some (.int v1), some (.int v2), some (.int v3), none, none, none, none] [] Q)) ∧ (v3 = 1 → WM G jX11_right [.ref 83, .int 1, .int 1] (pI h 83 0 0) (Aft G jX11_chord 21 [some (.ref 83), some (.int v1), some (.int v2), some (.int v3), none, none, none, none] [] Q))))) : WM G jX11_chord [.ref 83, .int v1, .int v2, .int v3] h Q :=
  WM.body (ls := [some (.ref 83), some (.int v1), some (.int v2), some (.int v3), none, none, none, none]) rfl (by decide +kernel) rfl (Nat.le_of_ble_eq_true rfl) rfl ((bX11_chord_0 hi  K))
theorem dX11_wayOf_0 : decode cX11_wayOf 0 = .ok (.aload_n 0, 1) := by decide +kernel
theorem dX11_wayOf_1 : decode cX11_wayOf 1 = .ok (.getfield 59, 3) := by decide +kernel
theorem dX11_wayOf_4 : decode cX11_wayOf 4 = .ok (.iconst 3, 1) := by decide +kernel
theorem dX11_wayOf_5 : decode cX11_wayOf 5 = .ok (.iload_n 1, 1) := by decide +kernel
theorem dX11_wayOf_6 : decode cX11_wayOf 6 = .ok (.imul, 1) := by decide +kernel
theorem dX11_wayOf_7 : decode cX11_wayOf 7 = .ok (.iconst 1, 1) := by decide +kernel
theorem dX11_wayOf_8 : decode cX11_wayOf 8 = .ok (.iadd, 1) := by decide +kernel
theorem dX11_wayOf_9 : decode cX11_wayOf 9 = .ok (.iload_n 2, 1) := by decide +kernel
theorem dX11_wayOf_10 : decode cX11_wayOf 10 = .ok (.iadd, 1) := by decide +kernel
theorem dX11_wayOf_11 : decode cX11_wayOf 11 = .ok (.iaload, 1) := by decide +kernel
theorem dX11_wayOf_12 : decode cX11_wayOf 12 = .ok (.aload_n 0, 1) := by decide +kernel
theorem dX11_wayOf_13 : decode cX11_wayOf 13 = .ok (.aload_n 0, 1) := by decide +kernel
theorem dX11_wayOf_14 : decode cX11_wayOf 14 = .ok (.getfield 19, 3) := by decide +kernel
theorem dX11_wayOf_17 : decode cX11_wayOf 17 = .ok (.iconst 0, 1) := by decide +kernel
theorem dX11_wayOf_18 : decode cX11_wayOf 18 = .ok (.aload_n 0, 1) := by decide +kernel
theorem dX11_wayOf_19 : decode cX11_wayOf 19 = .ok (.getfield 59, 3) := by decide +kernel
theorem dX11_wayOf_22 : decode cX11_wayOf 22 = .ok (.iconst 3, 1) := by decide +kernel
theorem dX11_wayOf_23 : decode cX11_wayOf 23 = .ok (.iload_n 1, 1) := by decide +kernel
theorem dX11_wayOf_24 : decode cX11_wayOf 24 = .ok (.imul, 1) := by decide +kernel
theorem dX11_wayOf_25 : decode cX11_wayOf 25 = .ok (.iaload, 1) := by decide +kernel
theorem dX11_wayOf_26 : decode cX11_wayOf 26 = .ok (.iload_n 2, 1) := by decide +kernel
theorem dX11_wayOf_27 : decode cX11_wayOf 27 = .ok (.invokevirtual 256, 3) := by decide +kernel
theorem dX11_wayOf_30 : decode cX11_wayOf 30 = .ok (.isub, 1) := by decide +kernel
theorem dX11_wayOf_31 : decode cX11_wayOf 31 = .ok (.ireturn, 1) := by decide +kernel
theorem bX11_wayOf_0 {G : GX} {h : mH} {Q : mO → mH → Prop} {v1 : Int32} {v2 : Int32} (hi : Iv h) (K : vp_in (((3 * v1) + 1) + v2) 18 ∧ (vp_in (3 * v1) 18 ∧ WM G jX11_penOf [.ref 83, .ref 87, .int 0, .int (gI h 99 (Int32.toNatClampNeg (3 * v1))), .int v2] h (Aft G jX11_wayOf 27 [none, none, none] [.int (gI h 99 (Int32.toNatClampNeg (((3 * v1) + 1) + v2)))] Q))) : Vw G jX11_wayOf 0 [some (.ref 83), some (.int v1), some (.int v2)] [] h Q :=
  s_aload_n dX11_wayOf_0 rfl (s_getR (v := .ref 99) dX11_wayOf_1 flX11_59 rfl (hi.sh rfl rfl) (hi.rf (o := 83) (k := 34) (d := 16) rfl rfl) (s_iconst 3 dX11_wayOf_4 (by decide) (s_iload_n dX11_wayOf_5 rfl (s_imul dX11_wayOf_6 (s_iconst 1 dX11_wayOf_7 (by decide) (s_iadd dX11_wayOf_8 (s_iload_n dX11_wayOf_9 rfl (s_iadd dX11_wayOf_10 (s_iaload dX11_wayOf_11 (hi.sh rfl rfl) K.1 (s_aload_n dX11_wayOf_12 rfl (s_aload_n dX11_wayOf_13 rfl (s_getR (v := .ref 87) dX11_wayOf_14 flX11_19 rfl (hi.sh rfl rfl) (hi.rf (o := 83) (k := 6) (d := 4) rfl rfl) (s_iconst 0 dX11_wayOf_17 (by decide) (s_aload_n dX11_wayOf_18 rfl (s_getR (v := .ref 99) dX11_wayOf_19 flX11_59 rfl (hi.sh rfl rfl) (hi.rf (o := 83) (k := 34) (d := 16) rfl rfl) (s_iconst 3 dX11_wayOf_22 (by decide) (s_iload_n dX11_wayOf_23 rfl (s_imul dX11_wayOf_24 (s_iaload dX11_wayOf_25 (hi.sh rfl rfl) K.2.1 (s_iload_n dX11_wayOf_26 rfl (Vw.mask [false, false, false] (s_callV (As := [.ref 87, .int 0, .int (gI h 99 (Int32.toNatClampNeg (3 * v1))), .int v2]) dX11_wayOf_27 rfl lvX11_256 ⟨Nat.le_of_ble_eq_true rfl, Nat.le_of_ble_eq_true rfl⟩ (hi.sh rfl rfl) ⟨_, _, by decide, rfl⟩ rfl (Nat.le_of_ble_eq_true rfl) (K.2.2)))))))))))))))))))))))
theorem bX11_wayOf_30 {G : GX} {h : mH} {Q : mO → mH → Prop} {vs0 : Int32} {vs1 : Int32} (hi : Iv h) (K : Q (.inl (some (.int (vs1 - vs0)))) h) : Vw G jX11_wayOf 30 [none, none, none] [.int vs0, .int vs1] h Q :=
  s_isub dX11_wayOf_30 (s_ireturn dX11_wayOf_31 rfl K)
theorem eX11_wayOf {G : GX} {h : mH} {Q : mO → mH → Prop} {v1 : Int32} {v2 : Int32} (hi : Iv h) (K : vp_in (((3 * v1) + 1) + v2) 18 ∧ (vp_in (3 * v1) 18 ∧ WM G jX11_penOf [.ref 83, .ref 87, .int 0, .int (gI h 99 (Int32.toNatClampNeg (3 * v1))), .int v2] h (Aft G jX11_wayOf 27 [none, none, none] [.int (gI h 99 (Int32.toNatClampNeg (((3 * v1) + 1) + v2)))] Q))) : WM G jX11_wayOf [.ref 83, .int v1, .int v2] h Q :=
  WM.body (ls := [some (.ref 83), some (.int v1), some (.int v2)]) rfl (by decide +kernel) rfl (Nat.le_of_ble_eq_true rfl) rfl ((bX11_wayOf_0 hi  K))
theorem dX11_shows_0 : decode cX11_shows 0 = .ok (.iconst (-1), 1) := by decide +kernel
theorem dX11_shows_1 : decode cX11_shows 1 = .ok (.istore_n 2, 1) := by decide +kernel
theorem dX11_shows_2 : decode cX11_shows 2 = .ok (.iconst 0, 1) := by decide +kernel
theorem dX11_shows_3 : decode cX11_shows 3 = .ok (.istore_n 3, 1) := by decide +kernel
theorem dX11_shows_4 : decode cX11_shows 4 = .ok (.iload_n 3, 1) := by decide +kernel
theorem dX11_shows_5 : decode cX11_shows 5 = .ok (.aload_n 0, 1) := by decide +kernel
theorem dX11_shows_6 : decode cX11_shows 6 = .ok (.getfield 229, 3) := by decide +kernel
theorem dX11_shows_9 : decode cX11_shows 9 = .ok (.if_icmp .ge 80, 3) := by decide +kernel
theorem dX11_shows_12 : decode cX11_shows 12 = .ok (.aload_n 0, 1) := by decide +kernel
theorem dX11_shows_13 : decode cX11_shows 13 = .ok (.getfield 59, 3) := by decide +kernel
theorem dX11_shows_16 : decode cX11_shows 16 = .ok (.iconst 3, 1) := by decide +kernel
theorem dX11_shows_17 : decode cX11_shows 17 = .ok (.iload_n 3, 1) := by decide +kernel
theorem dX11_shows_18 : decode cX11_shows 18 = .ok (.imul, 1) := by decide +kernel
theorem dX11_shows_19 : decode cX11_shows 19 = .ok (.iaload, 1) := by decide +kernel
theorem dX11_shows_20 : decode cX11_shows 20 = .ok (.iload_n 1, 1) := by decide +kernel
theorem dX11_shows_21 : decode cX11_shows 21 = .ok (.if_icmp .ge 23, 3) := by decide +kernel
theorem dX11_shows_24 : decode cX11_shows 24 = .ok (.aload_n 0, 1) := by decide +kernel
theorem dX11_shows_25 : decode cX11_shows 25 = .ok (.iload_n 3, 1) := by decide +kernel
theorem dX11_shows_26 : decode cX11_shows 26 = .ok (.iconst 0, 1) := by decide +kernel
theorem dX11_shows_27 : decode cX11_shows 27 = .ok (.invokevirtual 304, 3) := by decide +kernel
theorem dX11_shows_30 : decode cX11_shows 30 = .ok (.ifCond .ne 12, 3) := by decide +kernel
theorem dX11_shows_33 : decode cX11_shows 33 = .ok (.aload_n 0, 1) := by decide +kernel
theorem dX11_shows_34 : decode cX11_shows 34 = .ok (.iload_n 3, 1) := by decide +kernel
theorem dX11_shows_35 : decode cX11_shows 35 = .ok (.iconst 1, 1) := by decide +kernel
theorem dX11_shows_36 : decode cX11_shows 36 = .ok (.invokevirtual 304, 3) := by decide +kernel
theorem dX11_shows_39 : decode cX11_shows 39 = .ok (.ifCond .eq 44, 3) := by decide +kernel
theorem dX11_shows_42 : decode cX11_shows 42 = .ok (.iconst (-1), 1) := by decide +kernel
theorem dX11_shows_43 : decode cX11_shows 43 = .ok (.ireturn, 1) := by decide +kernel
theorem dX11_shows_44 : decode cX11_shows 44 = .ok (.iload_n 2, 1) := by decide +kernel
theorem dX11_shows_45 : decode cX11_shows 45 = .ok (.iconst (-1), 1) := by decide +kernel
theorem dX11_shows_46 : decode cX11_shows 46 = .ok (.if_icmp .ne 5, 3) := by decide +kernel
theorem dX11_shows_49 : decode cX11_shows 49 = .ok (.iload_n 3, 1) := by decide +kernel
theorem dX11_shows_50 : decode cX11_shows 50 = .ok (.istore_n 2, 1) := by decide +kernel
theorem dX11_shows_51 : decode cX11_shows 51 = .ok (.aload_n 0, 1) := by decide +kernel
theorem dX11_shows_52 : decode cX11_shows 52 = .ok (.iload_n 3, 1) := by decide +kernel
theorem dX11_shows_53 : decode cX11_shows 53 = .ok (.iconst 0, 1) := by decide +kernel
theorem dX11_shows_54 : decode cX11_shows 54 = .ok (.invokevirtual 304, 3) := by decide +kernel
theorem dX11_shows_57 : decode cX11_shows 57 = .ok (.aload_n 0, 1) := by decide +kernel
theorem dX11_shows_58 : decode cX11_shows 58 = .ok (.iload_n 2, 1) := by decide +kernel
theorem dX11_shows_59 : decode cX11_shows 59 = .ok (.iconst 0, 1) := by decide +kernel
theorem dX11_shows_60 : decode cX11_shows 60 = .ok (.invokevirtual 304, 3) := by decide +kernel
theorem dX11_shows_63 : decode cX11_shows 63 = .ok (.if_icmp .ne 18, 3) := by decide +kernel
theorem dX11_shows_66 : decode cX11_shows 66 = .ok (.aload_n 0, 1) := by decide +kernel
theorem dX11_shows_67 : decode cX11_shows 67 = .ok (.iload_n 3, 1) := by decide +kernel
theorem dX11_shows_68 : decode cX11_shows 68 = .ok (.iconst 1, 1) := by decide +kernel
theorem dX11_shows_69 : decode cX11_shows 69 = .ok (.invokevirtual 304, 3) := by decide +kernel
theorem dX11_shows_72 : decode cX11_shows 72 = .ok (.aload_n 0, 1) := by decide +kernel
theorem dX11_shows_73 : decode cX11_shows 73 = .ok (.iload_n 2, 1) := by decide +kernel
theorem dX11_shows_74 : decode cX11_shows 74 = .ok (.iconst 1, 1) := by decide +kernel
theorem dX11_shows_75 : decode cX11_shows 75 = .ok (.invokevirtual 304, 3) := by decide +kernel
theorem dX11_shows_78 : decode cX11_shows 78 = .ok (.if_icmp .eq 5, 3) := by decide +kernel
theorem dX11_shows_81 : decode cX11_shows 81 = .ok (.iconst (-1), 1) := by decide +kernel
theorem dX11_shows_82 : decode cX11_shows 82 = .ok (.ireturn, 1) := by decide +kernel
theorem dX11_shows_83 : decode cX11_shows 83 = .ok (.iinc 3 1, 3) := by decide +kernel
theorem dX11_shows_86 : decode cX11_shows 86 = .ok (.goto (-82), 3) := by decide +kernel
theorem dX11_shows_89 : decode cX11_shows 89 = .ok (.iload_n 2, 1) := by decide +kernel
theorem dX11_shows_90 : decode cX11_shows 90 = .ok (.iconst (-1), 1) := by decide +kernel
theorem dX11_shows_91 : decode cX11_shows 91 = .ok (.if_icmp .eq 31, 3) := by decide +kernel
theorem dX11_shows_94 : decode cX11_shows 94 = .ok (.aload_n 0, 1) := by decide +kernel
theorem dX11_shows_95 : decode cX11_shows 95 = .ok (.iload_n 2, 1) := by decide +kernel
theorem dX11_shows_96 : decode cX11_shows 96 = .ok (.iconst 0, 1) := by decide +kernel
theorem dX11_shows_97 : decode cX11_shows 97 = .ok (.invokevirtual 304, 3) := by decide +kernel
theorem dX11_shows_100 : decode cX11_shows 100 = .ok (.invokestatic 279, 3) := by decide +kernel
theorem dX11_shows_103 : decode cX11_shows 103 = .ok (.bipush 20, 2) := by decide +kernel
theorem dX11_shows_105 : decode cX11_shows 105 = .ok (.if_icmp .gt 17, 3) := by decide +kernel
theorem dX11_shows_108 : decode cX11_shows 108 = .ok (.aload_n 0, 1) := by decide +kernel
theorem dX11_shows_109 : decode cX11_shows 109 = .ok (.iload_n 2, 1) := by decide +kernel
theorem dX11_shows_110 : decode cX11_shows 110 = .ok (.iconst 1, 1) := by decide +kernel
theorem dX11_shows_111 : decode cX11_shows 111 = .ok (.invokevirtual 304, 3) := by decide +kernel
theorem dX11_shows_114 : decode cX11_shows 114 = .ok (.invokestatic 279, 3) := by decide +kernel
theorem dX11_shows_117 : decode cX11_shows 117 = .ok (.bipush 20, 2) := by decide +kernel
theorem dX11_shows_119 : decode cX11_shows 119 = .ok (.if_icmp .le 5, 3) := by decide +kernel
theorem dX11_shows_122 : decode cX11_shows 122 = .ok (.iconst (-1), 1) := by decide +kernel
theorem dX11_shows_123 : decode cX11_shows 123 = .ok (.ireturn, 1) := by decide +kernel
theorem dX11_shows_124 : decode cX11_shows 124 = .ok (.aload_n 0, 1) := by decide +kernel
theorem dX11_shows_125 : decode cX11_shows 125 = .ok (.iload_n 2, 1) := by decide +kernel
theorem dX11_shows_126 : decode cX11_shows 126 = .ok (.iconst 0, 1) := by decide +kernel
theorem dX11_shows_127 : decode cX11_shows 127 = .ok (.invokevirtual 304, 3) := by decide +kernel
theorem dX11_shows_130 : decode cX11_shows 130 = .ok (.ifCond .ne 16, 3) := by decide +kernel
theorem dX11_shows_133 : decode cX11_shows 133 = .ok (.aload_n 0, 1) := by decide +kernel
theorem dX11_shows_134 : decode cX11_shows 134 = .ok (.iload_n 2, 1) := by decide +kernel
theorem dX11_shows_135 : decode cX11_shows 135 = .ok (.iconst 1, 1) := by decide +kernel
theorem dX11_shows_136 : decode cX11_shows 136 = .ok (.invokevirtual 304, 3) := by decide +kernel
theorem dX11_shows_139 : decode cX11_shows 139 = .ok (.ifCond .ne 7, 3) := by decide +kernel
theorem dX11_shows_142 : decode cX11_shows 142 = .ok (.iconst (-1), 1) := by decide +kernel
theorem dX11_shows_143 : decode cX11_shows 143 = .ok (.goto 4, 3) := by decide +kernel
theorem dX11_shows_146 : decode cX11_shows 146 = .ok (.iload_n 2, 1) := by decide +kernel
theorem dX11_shows_147 : decode cX11_shows 147 = .ok (.ireturn, 1) := by decide +kernel
theorem bX11_shows_0 {G : GX} {h : mH} {Q : mO → mH → Prop} {v1 : Int32} (hi : Iv h) (K : Vw G jX11_shows 4 [some (.ref 83), some (.int v1), some (.int (-1)), some (.int 0)] [] h Q) : Vw G jX11_shows 0 [some (.ref 83), some (.int v1), none, none] [] h Q :=
  s_iconst (-1) dX11_shows_0 (by decide) (s_istore_n dX11_shows_1 (Nat.le_of_ble_eq_true rfl) rfl (s_iconst 0 dX11_shows_2 (by decide) (s_istore_n dX11_shows_3 (Nat.le_of_ble_eq_true rfl) rfl (K))))
theorem bX11_shows_4 {G : GX} {h : mH} {Q : mO → mH → Prop} {v1 : Int32} {v2 : Int32} {v3 : Int32} (hi : Iv h) (K : ((gI h 83 33) ≤ v3 → ((v2 = (-1) → Q (.inl (some (.int (-1)))) h) ∧ (¬ v2 = (-1) → WM G jX11_wayOf [.ref 83, .int v2, .int 0] h (Aft G jX11_shows 97 [some (.ref 83), none, some (.int v2), none] [] Q)))) ∧ (¬ (gI h 83 33) ≤ v3 → (vp_in (3 * v3) 18 ∧ ((v1 ≤ (gI h 99 (Int32.toNatClampNeg (3 * v3))) → ((¬ v2 = (-1) → Vw G jX11_shows 51 [some (.ref 83), some (.int v1), some (.int v2), some (.int v3)] [] h Q) ∧ (v2 = (-1) → Vw G jX11_shows 51 [some (.ref 83), some (.int v1), some (.int v3), some (.int v3)] [] h Q))) ∧ (¬ v1 ≤ (gI h 99 (Int32.toNatClampNeg (3 * v3))) → WM G jX11_wayOf [.ref 83, .int v3, .int 0] h (Aft G jX11_shows 27 [some (.ref 83), some (.int v1), some (.int v2), some (.int v3)] [] Q)))))) : Vw G jX11_shows 4 [some (.ref 83), some (.int v1), some (.int v2), some (.int v3)] [] h Q :=
  s_iload_n dX11_shows_4 rfl (s_aload_n dX11_shows_5 rfl (s_getI dX11_shows_6 flX11_229 (Or.inl rfl) (hi.sh rfl rfl) (s_icmp_ge 89 dX11_shows_9 rfl (fun q3 => s_iload_n dX11_shows_89 rfl (s_iconst (-1) dX11_shows_90 (by decide) (s_icmp_eq 122 dX11_shows_91 rfl (fun q6 => s_iconst (-1) dX11_shows_122 (by decide) (s_ireturn dX11_shows_123 rfl ((K.1 q3).1 q6))) (fun q6 => s_aload_n dX11_shows_94 rfl (s_iload_n dX11_shows_95 rfl (s_iconst 0 dX11_shows_96 (by decide) (Vw.mask [true, false, true, false] (s_callV (As := [.int v2, .int 0]) dX11_shows_97 rfl lvX11_304 ⟨Nat.le_of_ble_eq_true rfl, Nat.le_of_ble_eq_true rfl⟩ (hi.sh rfl rfl) ⟨_, _, by decide, rfl⟩ rfl (Nat.le_of_ble_eq_true rfl) (((K.1 q3).2 q6)))))))))) (fun q3 => s_aload_n dX11_shows_12 rfl (s_getR (v := .ref 99) dX11_shows_13 flX11_59 rfl (hi.sh rfl rfl) (hi.rf (o := 83) (k := 34) (d := 16) rfl rfl) (s_iconst 3 dX11_shows_16 (by decide) (s_iload_n dX11_shows_17 rfl (s_imul dX11_shows_18 (s_iaload dX11_shows_19 (hi.sh rfl rfl) (K.2 q3).1 (s_iload_n dX11_shows_20 rfl (s_icmp_ge 44 dX11_shows_21 rfl (fun q11 => s_iload_n dX11_shows_44 rfl (s_iconst (-1) dX11_shows_45 (by decide) (s_icmp_ne 51 dX11_shows_46 rfl (fun q14 => (((K.2 q3).2.1 q11).1 q14)) (fun q14 => s_iload_n dX11_shows_49 rfl (s_istore_n dX11_shows_50 (Nat.le_of_ble_eq_true rfl) rfl ((((K.2 q3).2.1 q11).2 q14))))))) (fun q11 => s_aload_n dX11_shows_24 rfl (s_iload_n dX11_shows_25 rfl (s_iconst 0 dX11_shows_26 (by decide) (s_callV (As := [.int v3, .int 0]) dX11_shows_27 rfl lvX11_304 ⟨Nat.le_of_ble_eq_true rfl, Nat.le_of_ble_eq_true rfl⟩ (hi.sh rfl rfl) ⟨_, _, by decide, rfl⟩ rfl (Nat.le_of_ble_eq_true rfl) (((K.2 q3).2.2 q11)))))))))))))))))
theorem bX11_shows_30 {G : GX} {h : mH} {Q : mO → mH → Prop} {v1 : Int32} {v2 : Int32} {v3 : Int32} {vs0 : Int32} (hi : Iv h) (K : (¬ vs0 = 0 → Q (.inl (some (.int (-1)))) h) ∧ (vs0 = 0 → WM G jX11_wayOf [.ref 83, .int v3, .int 1] h (Aft G jX11_shows 36 [some (.ref 83), some (.int v1), some (.int v2), some (.int v3)] [] Q))) : Vw G jX11_shows 30 [some (.ref 83), some (.int v1), some (.int v2), some (.int v3)] [.int vs0] h Q :=
  s_if_ne 42 dX11_shows_30 rfl (fun q0 => s_iconst (-1) dX11_shows_42 (by decide) (s_ireturn dX11_shows_43 rfl (K.1 q0))) (fun q0 => s_aload_n dX11_shows_33 rfl (s_iload_n dX11_shows_34 rfl (s_iconst 1 dX11_shows_35 (by decide) (s_callV (As := [.int v3, .int 1]) dX11_shows_36 rfl lvX11_304 ⟨Nat.le_of_ble_eq_true rfl, Nat.le_of_ble_eq_true rfl⟩ (hi.sh rfl rfl) ⟨_, _, by decide, rfl⟩ rfl (Nat.le_of_ble_eq_true rfl) ((K.2 q0))))))
theorem bX11_shows_39 {G : GX} {h : mH} {Q : mO → mH → Prop} {v1 : Int32} {v2 : Int32} {v3 : Int32} {vs0 : Int32} (hi : Iv h) (K : (vs0 = 0 → Vw G jX11_shows 83 [some (.ref 83), some (.int v1), some (.int v2), some (.int v3)] [] h Q) ∧ (¬ vs0 = 0 → Q (.inl (some (.int (-1)))) h)) : Vw G jX11_shows 39 [some (.ref 83), some (.int v1), some (.int v2), some (.int v3)] [.int vs0] h Q :=
  s_if_eq 83 dX11_shows_39 rfl (fun q0 => (K.1 q0)) (fun q0 => s_iconst (-1) dX11_shows_42 (by decide) (s_ireturn dX11_shows_43 rfl (K.2 q0)))
theorem bX11_shows_51 {G : GX} {h : mH} {Q : mO → mH → Prop} {v1 : Int32} {v2 : Int32} {v3 : Int32} (hi : Iv h) (K : WM G jX11_wayOf [.ref 83, .int v3, .int 0] h (Aft G jX11_shows 54 [some (.ref 83), some (.int v1), some (.int v2), some (.int v3)] [] Q)) : Vw G jX11_shows 51 [some (.ref 83), some (.int v1), some (.int v2), some (.int v3)] [] h Q :=
  s_aload_n dX11_shows_51 rfl (s_iload_n dX11_shows_52 rfl (s_iconst 0 dX11_shows_53 (by decide) (s_callV (As := [.int v3, .int 0]) dX11_shows_54 rfl lvX11_304 ⟨Nat.le_of_ble_eq_true rfl, Nat.le_of_ble_eq_true rfl⟩ (hi.sh rfl rfl) ⟨_, _, by decide, rfl⟩ rfl (Nat.le_of_ble_eq_true rfl) (K))))
theorem bX11_shows_57 {G : GX} {h : mH} {Q : mO → mH → Prop} {v1 : Int32} {v2 : Int32} {v3 : Int32} {vs0 : Int32} (hi : Iv h) (K : WM G jX11_wayOf [.ref 83, .int v2, .int 0] h (Aft G jX11_shows 60 [some (.ref 83), some (.int v1), some (.int v2), some (.int v3)] [.int vs0] Q)) : Vw G jX11_shows 57 [some (.ref 83), some (.int v1), some (.int v2), some (.int v3)] [.int vs0] h Q :=
  s_aload_n dX11_shows_57 rfl (s_iload_n dX11_shows_58 rfl (s_iconst 0 dX11_shows_59 (by decide) (s_callV (As := [.int v2, .int 0]) dX11_shows_60 rfl lvX11_304 ⟨Nat.le_of_ble_eq_true rfl, Nat.le_of_ble_eq_true rfl⟩ (hi.sh rfl rfl) ⟨_, _, by decide, rfl⟩ rfl (Nat.le_of_ble_eq_true rfl) (K))))
theorem bX11_shows_63 {G : GX} {h : mH} {Q : mO → mH → Prop} {v1 : Int32} {v2 : Int32} {v3 : Int32} {vs0 : Int32} {vs1 : Int32} (hi : Iv h) (K : (¬ vs1 = vs0 → Q (.inl (some (.int (-1)))) h) ∧ (vs1 = vs0 → WM G jX11_wayOf [.ref 83, .int v3, .int 1] h (Aft G jX11_shows 69 [some (.ref 83), some (.int v1), some (.int v2), some (.int v3)] [] Q))) : Vw G jX11_shows 63 [some (.ref 83), some (.int v1), some (.int v2), some (.int v3)] [.int vs0, .int vs1] h Q :=
  s_icmp_ne 81 dX11_shows_63 rfl (fun q0 => s_iconst (-1) dX11_shows_81 (by decide) (s_ireturn dX11_shows_82 rfl (K.1 q0))) (fun q0 => s_aload_n dX11_shows_66 rfl (s_iload_n dX11_shows_67 rfl (s_iconst 1 dX11_shows_68 (by decide) (s_callV (As := [.int v3, .int 1]) dX11_shows_69 rfl lvX11_304 ⟨Nat.le_of_ble_eq_true rfl, Nat.le_of_ble_eq_true rfl⟩ (hi.sh rfl rfl) ⟨_, _, by decide, rfl⟩ rfl (Nat.le_of_ble_eq_true rfl) ((K.2 q0))))))
theorem bX11_shows_72 {G : GX} {h : mH} {Q : mO → mH → Prop} {v1 : Int32} {v2 : Int32} {v3 : Int32} {vs0 : Int32} (hi : Iv h) (K : WM G jX11_wayOf [.ref 83, .int v2, .int 1] h (Aft G jX11_shows 75 [some (.ref 83), some (.int v1), some (.int v2), some (.int v3)] [.int vs0] Q)) : Vw G jX11_shows 72 [some (.ref 83), some (.int v1), some (.int v2), some (.int v3)] [.int vs0] h Q :=
  s_aload_n dX11_shows_72 rfl (s_iload_n dX11_shows_73 rfl (s_iconst 1 dX11_shows_74 (by decide) (s_callV (As := [.int v2, .int 1]) dX11_shows_75 rfl lvX11_304 ⟨Nat.le_of_ble_eq_true rfl, Nat.le_of_ble_eq_true rfl⟩ (hi.sh rfl rfl) ⟨_, _, by decide, rfl⟩ rfl (Nat.le_of_ble_eq_true rfl) (K))))
theorem bX11_shows_78 {G : GX} {h : mH} {Q : mO → mH → Prop} {v1 : Int32} {v2 : Int32} {v3 : Int32} {vs0 : Int32} {vs1 : Int32} (hi : Iv h) (K : (vs1 = vs0 → Vw G jX11_shows 83 [some (.ref 83), some (.int v1), some (.int v2), some (.int v3)] [] h Q) ∧ (¬ vs1 = vs0 → Q (.inl (some (.int (-1)))) h)) : Vw G jX11_shows 78 [some (.ref 83), some (.int v1), some (.int v2), some (.int v3)] [.int vs0, .int vs1] h Q :=
  s_icmp_eq 83 dX11_shows_78 rfl (fun q0 => (K.1 q0)) (fun q0 => s_iconst (-1) dX11_shows_81 (by decide) (s_ireturn dX11_shows_82 rfl (K.2 q0)))
theorem bX11_shows_83 {G : GX} {h : mH} {Q : mO → mH → Prop} {v1 : Int32} {v2 : Int32} {v3 : Int32} (hi : Iv h) (K : Vw G jX11_shows 4 [some (.ref 83), some (.int v1), some (.int v2), some (.int (v3 + 1))] [] h Q) : Vw G jX11_shows 83 [some (.ref 83), some (.int v1), some (.int v2), some (.int v3)] [] h Q :=
  s_iinc 1 dX11_shows_83 rfl (by decide) (Nat.le_of_ble_eq_true rfl) rfl (s_goto 4 dX11_shows_86 rfl (K))
theorem bX11_shows_100 {G : GX} {h : mH} {Q : mO → mH → Prop} {v2 : Int32} {vs0 : Int32} (hi : Iv h) (K : (20 < (fX11_size vs0) → Q (.inl (some (.int (-1)))) h) ∧ (¬ 20 < (fX11_size vs0) → WM G jX11_wayOf [.ref 83, .int v2, .int 1] h (Aft G jX11_shows 111 [some (.ref 83), none, some (.int v2), none] [] Q))) : Vw G jX11_shows 100 [some (.ref 83), none, some (.int v2), none] [.int vs0] h Q :=
  s_callS (As := [.int vs0]) dX11_shows_100 rfl lsX11_279 ⟨Nat.le_of_ble_eq_true rfl, Nat.le_of_ble_eq_true rfl⟩ rfl (Nat.le_of_ble_eq_true rfl) (mX11_size   (s_bipush 20 dX11_shows_103 (by decide) (s_icmp_gt 122 dX11_shows_105 rfl (fun q2 => s_iconst (-1) dX11_shows_122 (by decide) (s_ireturn dX11_shows_123 rfl (K.1 q2))) (fun q2 => s_aload_n dX11_shows_108 rfl (s_iload_n dX11_shows_109 rfl (s_iconst 1 dX11_shows_110 (by decide) (s_callV (As := [.int v2, .int 1]) dX11_shows_111 rfl lvX11_304 ⟨Nat.le_of_ble_eq_true rfl, Nat.le_of_ble_eq_true rfl⟩ (hi.sh rfl rfl) ⟨_, _, by decide, rfl⟩ rfl (Nat.le_of_ble_eq_true rfl) ((K.2 q2)))))))))
theorem bX11_shows_114 {G : GX} {h : mH} {Q : mO → mH → Prop} {v2 : Int32} {vs0 : Int32} (hi : Iv h) (K : ((fX11_size vs0) ≤ 20 → WM G jX11_wayOf [.ref 83, .int v2, .int 0] h (Aft G jX11_shows 127 [some (.ref 83), none, some (.int v2), none] [] Q)) ∧ (¬ (fX11_size vs0) ≤ 20 → Q (.inl (some (.int (-1)))) h)) : Vw G jX11_shows 114 [some (.ref 83), none, some (.int v2), none] [.int vs0] h Q :=
  s_callS (As := [.int vs0]) dX11_shows_114 rfl lsX11_279 ⟨Nat.le_of_ble_eq_true rfl, Nat.le_of_ble_eq_true rfl⟩ rfl (Nat.le_of_ble_eq_true rfl) (mX11_size   (s_bipush 20 dX11_shows_117 (by decide) (s_icmp_le 124 dX11_shows_119 rfl (fun q2 => s_aload_n dX11_shows_124 rfl (s_iload_n dX11_shows_125 rfl (s_iconst 0 dX11_shows_126 (by decide) (s_callV (As := [.int v2, .int 0]) dX11_shows_127 rfl lvX11_304 ⟨Nat.le_of_ble_eq_true rfl, Nat.le_of_ble_eq_true rfl⟩ (hi.sh rfl rfl) ⟨_, _, by decide, rfl⟩ rfl (Nat.le_of_ble_eq_true rfl) ((K.1 q2)))))) (fun q2 => s_iconst (-1) dX11_shows_122 (by decide) (s_ireturn dX11_shows_123 rfl (K.2 q2))))))
theorem bX11_shows_130 {G : GX} {h : mH} {Q : mO → mH → Prop} {v2 : Int32} {vs0 : Int32} (hi : Iv h) (K : (¬ vs0 = 0 → Q (.inl (some (.int v2))) h) ∧ (vs0 = 0 → WM G jX11_wayOf [.ref 83, .int v2, .int 1] h (Aft G jX11_shows 136 [none, none, some (.int v2), none] [] Q))) : Vw G jX11_shows 130 [some (.ref 83), none, some (.int v2), none] [.int vs0] h Q :=
  s_if_ne 146 dX11_shows_130 rfl (fun q0 => s_iload_n dX11_shows_146 rfl (s_ireturn dX11_shows_147 rfl (K.1 q0))) (fun q0 => s_aload_n dX11_shows_133 rfl (s_iload_n dX11_shows_134 rfl (s_iconst 1 dX11_shows_135 (by decide) (Vw.mask [false, false, true, false] (s_callV (As := [.int v2, .int 1]) dX11_shows_136 rfl lvX11_304 ⟨Nat.le_of_ble_eq_true rfl, Nat.le_of_ble_eq_true rfl⟩ (hi.sh rfl rfl) ⟨_, _, by decide, rfl⟩ rfl (Nat.le_of_ble_eq_true rfl) ((K.2 q0)))))))
theorem bX11_shows_139 {G : GX} {h : mH} {Q : mO → mH → Prop} {v2 : Int32} {vs0 : Int32} (hi : Iv h) (K : (¬ vs0 = 0 → Q (.inl (some (.int v2))) h) ∧ (vs0 = 0 → Q (.inl (some (.int (-1)))) h)) : Vw G jX11_shows 139 [none, none, some (.int v2), none] [.int vs0] h Q :=
  s_if_ne 146 dX11_shows_139 rfl (fun q0 => s_iload_n dX11_shows_146 rfl (s_ireturn dX11_shows_147 rfl (K.1 q0))) (fun q0 => s_iconst (-1) dX11_shows_142 (by decide) (s_goto 147 dX11_shows_143 rfl (s_ireturn dX11_shows_147 rfl (K.2 q0))))
theorem eX11_shows {G : GX} {h : mH} {Q : mO → mH → Prop} {v1 : Int32} (hi : Iv h) (K : Vw G jX11_shows 4 [some (.ref 83), some (.int v1), some (.int (-1)), some (.int 0)] [] h Q) : WM G jX11_shows [.ref 83, .int v1] h Q :=
  WM.body (ls := [some (.ref 83), some (.int v1), none, none]) rfl (by decide +kernel) rfl (Nat.le_of_ble_eq_true rfl) rfl ((bX11_shows_0 hi  K))
