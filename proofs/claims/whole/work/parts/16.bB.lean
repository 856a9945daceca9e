theorem dX11_right_0 : decode cX11_right 0 = .ok (.aload_n 0, 1) := by decide +kernel
theorem dX11_right_1 : decode cX11_right 1 = .ok (.getfield 113, 3) := by decide +kernel
theorem dX11_right_4 : decode cX11_right 4 = .ok (.ifCond .ne 12, 3) := by decide +kernel
theorem dX11_right_7 : decode cX11_right 7 = .ok (.iload_n 1, 1) := by decide +kernel
theorem dX11_right_8 : decode cX11_right 8 = .ok (.ifCond .ne 8, 3) := by decide +kernel
theorem dX11_right_11 : decode cX11_right 11 = .ok (.aload_n 0, 1) := by decide +kernel
theorem dX11_right_12 : decode cX11_right 12 = .ok (.iload_n 2, 1) := by decide +kernel
theorem dX11_right_13 : decode cX11_right 13 = .ok (.putfield 113, 3) := by decide +kernel
theorem dX11_right_16 : decode cX11_right 16 = .ok (.aload_n 0, 1) := by decide +kernel
theorem dX11_right_17 : decode cX11_right 17 = .ok (.getfield 113, 3) := by decide +kernel
theorem dX11_right_20 : decode cX11_right 20 = .ok (.ifCond .ne 7, 3) := by decide +kernel
theorem dX11_right_23 : decode cX11_right 23 = .ok (.iconst 1, 1) := by decide +kernel
theorem dX11_right_24 : decode cX11_right 24 = .ok (.goto 4, 3) := by decide +kernel
theorem dX11_right_27 : decode cX11_right 27 = .ok (.iconst 0, 1) := by decide +kernel
theorem dX11_right_28 : decode cX11_right 28 = .ok (.ireturn, 1) := by decide +kernel
theorem bX11_right_0 {G : GX} {h : mH} {Q : mO → mH → Prop} {v1 : Int32} {v2 : Int32} (hi : Iv h) (K : (¬ (gI h 83 0) = 0 → Vw G jX11_right 16 [some (.ref 83), none, none] [] h Q) ∧ ((gI h 83 0) = 0 → ((¬ v1 = 0 → Vw G jX11_right 16 [some (.ref 83), none, none] [] h Q) ∧ (v1 = 0 → Vw G jX11_right 16 [some (.ref 83), none, none] [] (pI h 83 0 v2) Q)))) : Vw G jX11_right 0 [some (.ref 83), some (.int v1), some (.int v2)] [] h Q :=
  s_aload_n dX11_right_0 rfl (s_getI dX11_right_1 flX11_113 (Or.inl rfl) (hi.sh rfl rfl) (s_if_ne 16 dX11_right_4 rfl (fun q2 => Vw.mask [true, false, false] ((K.1 q2))) (fun q2 => s_iload_n dX11_right_7 rfl (s_if_ne 16 dX11_right_8 rfl (fun q4 => Vw.mask [true, false, false] (((K.2 q2).1 q4))) (fun q4 => s_aload_n dX11_right_11 rfl (s_iload_n dX11_right_12 rfl (s_putI dX11_right_13 flX11_113 ff10_0 rfl (hi.sh rfl rfl) (Vw.mask [true, false, false] (((K.2 q2).2 q4))))))))))
theorem bX11_right_16 {G : GX} {h : mH} {Q : mO → mH → Prop} (hi : Iv h) (K : (¬ (gI h 83 0) = 0 → Q (.inl (some (.int 0))) h) ∧ ((gI h 83 0) = 0 → Q (.inl (some (.int 1))) h)) : Vw G jX11_right 16 [some (.ref 83), none, none] [] h Q :=
  s_aload_n dX11_right_16 rfl (s_getI dX11_right_17 flX11_113 (Or.inl rfl) (hi.sh rfl rfl) (s_if_ne 27 dX11_right_20 rfl (fun q2 => s_iconst 0 dX11_right_27 (by decide) (s_zreturn dX11_right_28 rfl (by decide) (K.1 q2))) (fun q2 => s_iconst 1 dX11_right_23 (by decide) (s_goto 28 dX11_right_24 rfl (s_zreturn dX11_right_28 rfl (by decide) (K.2 q2))))))
theorem eX11_right {G : GX} {h : mH} {Q : mO → mH → Prop} {v1 : Int32} {v2 : Int32} (hi : Iv h) (K : (¬ (gI h 83 0) = 0 → Vw G jX11_right 16 [some (.ref 83), none, none] [] h Q) ∧ ((gI h 83 0) = 0 → ((¬ v1 = 0 → Vw G jX11_right 16 [some (.ref 83), none, none] [] h Q) ∧ (v1 = 0 → Vw G jX11_right 16 [some (.ref 83), none, none] [] (pI h 83 0 v2) Q)))) : WM G jX11_right [.ref 83, .int v1, .int v2] h Q :=
  WM.body (ls := [some (.ref 83), some (.int v1), some (.int v2)]) rfl (by decide +kernel) rfl (Nat.le_of_ble_eq_true rfl) rfl ((bX11_right_0 hi  K))
theorem dX11_copies_0 : decode cX11_copies 0 = .ok (.iconst 0, 1) := by decide +kernel
theorem dX11_copies_1 : decode cX11_copies 1 = .ok (.istore_n 3, 1) := by decide +kernel
theorem dX11_copies_2 : decode cX11_copies 2 = .ok (.iload_n 3, 1) := by decide +kernel
theorem dX11_copies_3 : decode cX11_copies 3 = .ok (.aload_n 1, 1) := by decide +kernel
theorem dX11_copies_4 : decode cX11_copies 4 = .ok (.arraylength, 1) := by decide +kernel
theorem dX11_copies_5 : decode cX11_copies 5 = .ok (.if_icmp .ge 15, 3) := by decide +kernel
theorem dX11_copies_8 : decode cX11_copies 8 = .ok (.aload_n 2, 1) := by decide +kernel
theorem dX11_copies_9 : decode cX11_copies 9 = .ok (.iload_n 3, 1) := by decide +kernel
theorem dX11_copies_10 : decode cX11_copies 10 = .ok (.aload_n 1, 1) := by decide +kernel
theorem dX11_copies_11 : decode cX11_copies 11 = .ok (.iload_n 3, 1) := by decide +kernel
theorem dX11_copies_12 : decode cX11_copies 12 = .ok (.iaload, 1) := by decide +kernel
theorem dX11_copies_13 : decode cX11_copies 13 = .ok (.iastore, 1) := by decide +kernel
theorem dX11_copies_14 : decode cX11_copies 14 = .ok (.iinc 3 1, 3) := by decide +kernel
theorem dX11_copies_17 : decode cX11_copies 17 = .ok (.goto (-15), 3) := by decide +kernel
theorem dX11_copies_20 : decode cX11_copies 20 = .ok (.return_, 1) := by decide +kernel
theorem bX11_copies_0 {G : GX} {h : mH} {Q : mO → mH → Prop} {r1 : Nat} {n1 : Nat} {r2 : Nat} {n2 : Nat} (hi : Iv h) (k1 : kd r1 = (100, n1)) (k2 : kd r2 = (100, n2)) (K : Vw G jX11_copies 2 [none, some (.ref r1), some (.ref r2), some (.int 0)] [] h Q) : Vw G jX11_copies 0 [none, some (.ref r1), some (.ref r2), none] [] h Q :=
  s_iconst 0 dX11_copies_0 (by decide) (s_istore_n dX11_copies_1 (Nat.le_of_ble_eq_true rfl) rfl (K))
theorem bX11_copies_2 {G : GX} {h : mH} {Q : mO → mH → Prop} {r1 : Nat} {n1 : Nat} {r2 : Nat} {n2 : Nat} {v3 : Int32} (hi : Iv h) (k1 : kd r1 = (100, n1)) (k2 : kd r2 = (100, n2)) (K : ((Int32.ofNat n1) ≤ v3 → Q (.inl none) h) ∧ (¬ (Int32.ofNat n1) ≤ v3 → (vp_in v3 n1 ∧ (vp_in v3 n2 ∧ Vw G jX11_copies 2 [none, some (.ref r1), some (.ref r2), some (.int (v3 + 1))] [] (pI h r2 (Int32.toNatClampNeg v3) (gI h r1 (Int32.toNatClampNeg v3))) Q)))) : Vw G jX11_copies 2 [none, some (.ref r1), some (.ref r2), some (.int v3)] [] h Q :=
  s_iload_n dX11_copies_2 rfl (s_aload_n dX11_copies_3 rfl (s_alen dX11_copies_4 (hi.sh k1 rfl) (Or.inl rfl) (s_icmp_ge 20 dX11_copies_5 rfl (fun q3 => s_return dX11_copies_20 rfl (K.1 q3)) (fun q3 => s_aload_n dX11_copies_8 rfl (s_iload_n dX11_copies_9 rfl (s_aload_n dX11_copies_10 rfl (s_iload_n dX11_copies_11 rfl (s_iaload dX11_copies_12 (hi.sh k1 rfl) (K.2 q3).1 (s_iastore dX11_copies_13 (hi.sh k2 rfl) (K.2 q3).2.1 (s_iinc 1 dX11_copies_14 rfl (by decide) (Nat.le_of_ble_eq_true rfl) rfl (s_goto 2 dX11_copies_17 rfl ((K.2 q3).2.2))))))))))))
theorem eX11_copies {G : GX} {h : mH} {Q : mO → mH → Prop} {r1 : Nat} {n1 : Nat} {r2 : Nat} {n2 : Nat} (hi : Iv h) (k1 : kd r1 = (100, n1)) (k2 : kd r2 = (100, n2)) (K : Vw G jX11_copies 2 [none, some (.ref r1), some (.ref r2), some (.int 0)] [] h Q) : WM G jX11_copies [.ref 83, .ref r1, .ref r2] h Q :=
  WM.body (ls := [some (.ref 83), some (.ref r1), some (.ref r2), none]) rfl (by decide +kernel) rfl (Nat.le_of_ble_eq_true rfl) rfl (Vw.mask [false, true, true, false] (bX11_copies_0 hi k1 k2 K))
theorem dX11_lays_0 : decode cX11_lays 0 = .ok (.bipush 24, 2) := by decide +kernel
theorem dX11_lays_2 : decode cX11_lays 2 = .ok (.istore_n 2, 1) := by decide +kernel
theorem dX11_lays_3 : decode cX11_lays 3 = .ok (.iload_n 2, 1) := by decide +kernel
theorem dX11_lays_4 : decode cX11_lays 4 = .ok (.ifCond .lt 35, 3) := by decide +kernel
theorem dX11_lays_7 : decode cX11_lays 7 = .ok (.aload_n 0, 1) := by decide +kernel
theorem dX11_lays_8 : decode cX11_lays 8 = .ok (.getfield 25, 3) := by decide +kernel
theorem dX11_lays_11 : decode cX11_lays 11 = .ok (.aload_n 0, 1) := by decide +kernel
theorem dX11_lays_12 : decode cX11_lays 12 = .ok (.getfield 116, 3) := by decide +kernel
theorem dX11_lays_15 : decode cX11_lays 15 = .ok (.iload_n 1, 1) := by decide +kernel
theorem dX11_lays_16 : decode cX11_lays 16 = .ok (.iload_n 2, 1) := by decide +kernel
theorem dX11_lays_17 : decode cX11_lays 17 = .ok (.ishr, 1) := by decide +kernel
theorem dX11_lays_18 : decode cX11_lays 18 = .ok (.sipush 255, 3) := by decide +kernel
theorem dX11_lays_21 : decode cX11_lays 21 = .ok (.iand, 1) := by decide +kernel
theorem dX11_lays_22 : decode cX11_lays 22 = .ok (.iastore, 1) := by decide +kernel
theorem dX11_lays_23 : decode cX11_lays 23 = .ok (.aload_n 0, 1) := by decide +kernel
theorem dX11_lays_24 : decode cX11_lays 24 = .ok (.dup, 1) := by decide +kernel
theorem dX11_lays_25 : decode cX11_lays 25 = .ok (.getfield 116, 3) := by decide +kernel
theorem dX11_lays_28 : decode cX11_lays 28 = .ok (.iconst 1, 1) := by decide +kernel
theorem dX11_lays_29 : decode cX11_lays 29 = .ok (.iadd, 1) := by decide +kernel
theorem dX11_lays_30 : decode cX11_lays 30 = .ok (.putfield 116, 3) := by decide +kernel
theorem dX11_lays_33 : decode cX11_lays 33 = .ok (.iinc 2 (-8), 3) := by decide +kernel
theorem dX11_lays_36 : decode cX11_lays 36 = .ok (.goto (-33), 3) := by decide +kernel
theorem dX11_lays_39 : decode cX11_lays 39 = .ok (.return_, 1) := by decide +kernel
theorem bX11_lays_0 {G : GX} {h : mH} {Q : mO → mH → Prop} {v1 : Int32} (hi : Iv h) (K : Vw G jX11_lays 3 [some (.ref 83), some (.int v1), some (.int 24)] [] h Q) : Vw G jX11_lays 0 [some (.ref 83), some (.int v1), none] [] h Q :=
  s_bipush 24 dX11_lays_0 (by decide) (s_istore_n dX11_lays_2 (Nat.le_of_ble_eq_true rfl) rfl (K))
theorem bX11_lays_3 {G : GX} {h : mH} {Q : mO → mH → Prop} {v1 : Int32} {v2 : Int32} (hi : Iv h) (K : (v2 < 0 → Q (.inl none) h) ∧ (¬ v2 < 0 → (vp_in (gI h 83 9) 400 ∧ Vw G jX11_lays 3 [some (.ref 83), some (.int v1), some (.int (v2 + (-8)))] [] (pI (pI h 89 (Int32.toNatClampNeg (gI h 83 9)) ((v1 >>> (v2 &&& 31)) &&& (255 : Int32))) 83 9 ((gI (pI h 89 (Int32.toNatClampNeg (gI h 83 9)) ((v1 >>> (v2 &&& 31)) &&& (255 : Int32))) 83 9) + 1)) Q))) : Vw G jX11_lays 3 [some (.ref 83), some (.int v1), some (.int v2)] [] h Q :=
  s_iload_n dX11_lays_3 rfl (s_if_lt 39 dX11_lays_4 rfl (fun q1 => s_return dX11_lays_39 rfl (K.1 q1)) (fun q1 => s_aload_n dX11_lays_7 rfl (s_getR (v := .ref 89) dX11_lays_8 flX11_25 rfl (hi.sh rfl rfl) (hi.rf (o := 83) (k := 8) (d := 6) rfl rfl) (s_aload_n dX11_lays_11 rfl (s_getI dX11_lays_12 flX11_116 (Or.inl rfl) (hi.sh rfl rfl) (s_iload_n dX11_lays_15 rfl (s_iload_n dX11_lays_16 rfl (s_ishr dX11_lays_17 (s_sipush 255 dX11_lays_18 (by decide) (s_iand dX11_lays_21 (s_iastore dX11_lays_22 (hi.sh rfl rfl) (K.2 q1).1 (s_aload_n dX11_lays_23 rfl (s_dupr dX11_lays_24 (s_getI dX11_lays_25 flX11_116 (Or.inl rfl) (hi.sh rfl rfl) (s_iconst 1 dX11_lays_28 (by decide) (s_iadd dX11_lays_29 (s_putI dX11_lays_30 flX11_116 ff10_9 rfl (hi.sh rfl rfl) (s_iinc (-8) dX11_lays_33 rfl (by decide) (Nat.le_of_ble_eq_true rfl) rfl (s_goto 3 dX11_lays_36 rfl ((K.2 q1).2))))))))))))))))))))
theorem eX11_lays {G : GX} {h : mH} {Q : mO → mH → Prop} {v1 : Int32} (hi : Iv h) (K : Vw G jX11_lays 3 [some (.ref 83), some (.int v1), some (.int 24)] [] h Q) : WM G jX11_lays [.ref 83, .int v1] h Q :=
  WM.body (ls := [some (.ref 83), some (.int v1), none]) rfl (by decide +kernel) rfl (Nat.le_of_ble_eq_true rfl) rfl ((bX11_lays_0 hi  K))
theorem dX11_feed_0 : decode cX11_feed 0 = .ok (.aload_n 0, 1) := by decide +kernel
theorem dX11_feed_1 : decode cX11_feed 1 = .ok (.iconst 0, 1) := by decide +kernel
theorem dX11_feed_2 : decode cX11_feed 2 = .ok (.putfield 113, 3) := by decide +kernel
theorem dX11_feed_5 : decode cX11_feed 5 = .ok (.aload_n 0, 1) := by decide +kernel
theorem dX11_feed_6 : decode cX11_feed 6 = .ok (.getfield 116, 3) := by decide +kernel
theorem dX11_feed_9 : decode cX11_feed 9 = .ok (.bipush 20, 2) := by decide +kernel
theorem dX11_feed_11 : decode cX11_feed 11 = .ok (.iadd, 1) := by decide +kernel
theorem dX11_feed_12 : decode cX11_feed 12 = .ok (.sipush 400, 3) := by decide +kernel
theorem dX11_feed_15 : decode cX11_feed 15 = .ok (.if_icmp .le 5, 3) := by decide +kernel
theorem dX11_feed_18 : decode cX11_feed 18 = .ok (.iconst (-1), 1) := by decide +kernel
theorem dX11_feed_19 : decode cX11_feed 19 = .ok (.ireturn, 1) := by decide +kernel
theorem dX11_feed_20 : decode cX11_feed 20 = .ok (.aload_n 0, 1) := by decide +kernel
theorem dX11_feed_21 : decode cX11_feed 21 = .ok (.iload_n 1, 1) := by decide +kernel
theorem dX11_feed_22 : decode cX11_feed 22 = .ok (.invokevirtual 119, 3) := by decide +kernel
theorem dX11_feed_25 : decode cX11_feed 25 = .ok (.aload_n 0, 1) := by decide +kernel
theorem dX11_feed_26 : decode cX11_feed 26 = .ok (.iload_n 2, 1) := by decide +kernel
theorem dX11_feed_27 : decode cX11_feed 27 = .ok (.invokevirtual 119, 3) := by decide +kernel
theorem dX11_feed_30 : decode cX11_feed 30 = .ok (.aload_n 0, 1) := by decide +kernel
theorem dX11_feed_31 : decode cX11_feed 31 = .ok (.iload_n 3, 1) := by decide +kernel
theorem dX11_feed_32 : decode cX11_feed 32 = .ok (.invokevirtual 119, 3) := by decide +kernel
theorem dX11_feed_35 : decode cX11_feed 35 = .ok (.aload_n 0, 1) := by decide +kernel
theorem dX11_feed_36 : decode cX11_feed 36 = .ok (.iload 4, 2) := by decide +kernel
theorem dX11_feed_38 : decode cX11_feed 38 = .ok (.invokevirtual 119, 3) := by decide +kernel
theorem dX11_feed_41 : decode cX11_feed 41 = .ok (.aload_n 0, 1) := by decide +kernel
theorem dX11_feed_42 : decode cX11_feed 42 = .ok (.iload 5, 2) := by decide +kernel
theorem dX11_feed_44 : decode cX11_feed 44 = .ok (.invokevirtual 119, 3) := by decide +kernel
theorem dX11_feed_47 : decode cX11_feed 47 = .ok (.aload_n 0, 1) := by decide +kernel
theorem dX11_feed_48 : decode cX11_feed 48 = .ok (.getfield 116, 3) := by decide +kernel
theorem dX11_feed_51 : decode cX11_feed 51 = .ok (.ireturn, 1) := by decide +kernel
theorem bX11_feed_0 {G : GX} {h : mH} {Q : mO → mH → Prop} {v1 : Int32} {v2 : Int32} {v3 : Int32} {v4 : Int32} {v5 : Int32} (hi : Iv h) (K : (((gI (pI h 83 0 0) 83 9) + 20) ≤ 400 → WM G jX11_lays [.ref 83, .int v1] (pI h 83 0 0) (Aft G jX11_feed 22 [some (.ref 83), none, some (.int v2), some (.int v3), some (.int v4), some (.int v5)] [] Q)) ∧ (¬ ((gI (pI h 83 0 0) 83 9) + 20) ≤ 400 → Q (.inl (some (.int (-1)))) (pI h 83 0 0))) : Vw G jX11_feed 0 [some (.ref 83), some (.int v1), some (.int v2), some (.int v3), some (.int v4), some (.int v5)] [] h Q :=
  s_aload_n dX11_feed_0 rfl (s_iconst 0 dX11_feed_1 (by decide) (s_putI dX11_feed_2 flX11_113 ff10_0 rfl (hi.sh rfl rfl) (s_aload_n dX11_feed_5 rfl (s_getI dX11_feed_6 flX11_116 (Or.inl rfl) (hi.sh rfl rfl) (s_bipush 20 dX11_feed_9 (by decide) (s_iadd dX11_feed_11 (s_sipush 400 dX11_feed_12 (by decide) (s_icmp_le 20 dX11_feed_15 rfl (fun q8 => s_aload_n dX11_feed_20 rfl (s_iload_n dX11_feed_21 rfl (Vw.mask [true, false, true, true, true, true] (s_callV (As := [.int v1]) dX11_feed_22 rfl lvX11_119 ⟨Nat.le_of_ble_eq_true rfl, Nat.le_of_ble_eq_true rfl⟩ (hi.sh rfl rfl) ⟨_, _, by decide, rfl⟩ rfl (Nat.le_of_ble_eq_true rfl) ((K.1 q8)))))) (fun q8 => s_iconst (-1) dX11_feed_18 (by decide) (s_ireturn dX11_feed_19 rfl (K.2 q8)))))))))))
theorem bX11_feed_25 {G : GX} {h : mH} {Q : mO → mH → Prop} {v2 : Int32} {v3 : Int32} {v4 : Int32} {v5 : Int32} (hi : Iv h) (K : WM G jX11_lays [.ref 83, .int v2] h (Aft G jX11_feed 27 [some (.ref 83), none, none, some (.int v3), some (.int v4), some (.int v5)] [] Q)) : Vw G jX11_feed 25 [some (.ref 83), none, some (.int v2), some (.int v3), some (.int v4), some (.int v5)] [] h Q :=
  s_aload_n dX11_feed_25 rfl (s_iload_n dX11_feed_26 rfl (Vw.mask [true, false, false, true, true, true] (s_callV (As := [.int v2]) dX11_feed_27 rfl lvX11_119 ⟨Nat.le_of_ble_eq_true rfl, Nat.le_of_ble_eq_true rfl⟩ (hi.sh rfl rfl) ⟨_, _, by decide, rfl⟩ rfl (Nat.le_of_ble_eq_true rfl) (K))))
theorem bX11_feed_30 {G : GX} {h : mH} {Q : mO → mH → Prop} {v3 : Int32} {v4 : Int32} {v5 : Int32} (hi : Iv h) (K : WM G jX11_lays [.ref 83, .int v3] h (Aft G jX11_feed 32 [some (.ref 83), none, none, none, some (.int v4), some (.int v5)] [] Q)) : Vw G jX11_feed 30 [some (.ref 83), none, none, some (.int v3), some (.int v4), some (.int v5)] [] h Q :=
  s_aload_n dX11_feed_30 rfl (s_iload_n dX11_feed_31 rfl (Vw.mask [true, false, false, false, true, true] (s_callV (As := [.int v3]) dX11_feed_32 rfl lvX11_119 ⟨Nat.le_of_ble_eq_true rfl, Nat.le_of_ble_eq_true rfl⟩ (hi.sh rfl rfl) ⟨_, _, by decide, rfl⟩ rfl (Nat.le_of_ble_eq_true rfl) (K))))
theorem bX11_feed_35 {G : GX} {h : mH} {Q : mO → mH → Prop} {v4 : Int32} {v5 : Int32} (hi : Iv h) (K : WM G jX11_lays [.ref 83, .int v4] h (Aft G jX11_feed 38 [some (.ref 83), none, none, none, none, some (.int v5)] [] Q)) : Vw G jX11_feed 35 [some (.ref 83), none, none, none, some (.int v4), some (.int v5)] [] h Q :=
  s_aload_n dX11_feed_35 rfl (s_iload dX11_feed_36 rfl (Vw.mask [true, false, false, false, false, true] (s_callV (As := [.int v4]) dX11_feed_38 rfl lvX11_119 ⟨Nat.le_of_ble_eq_true rfl, Nat.le_of_ble_eq_true rfl⟩ (hi.sh rfl rfl) ⟨_, _, by decide, rfl⟩ rfl (Nat.le_of_ble_eq_true rfl) (K))))
theorem bX11_feed_41 {G : GX} {h : mH} {Q : mO → mH → Prop} {v5 : Int32} (hi : Iv h) (K : WM G jX11_lays [.ref 83, .int v5] h (Aft G jX11_feed 44 [some (.ref 83), none, none, none, none, none] [] Q)) : Vw G jX11_feed 41 [some (.ref 83), none, none, none, none, some (.int v5)] [] h Q :=
  s_aload_n dX11_feed_41 rfl (s_iload dX11_feed_42 rfl (Vw.mask [true, false, false, false, false, false] (s_callV (As := [.int v5]) dX11_feed_44 rfl lvX11_119 ⟨Nat.le_of_ble_eq_true rfl, Nat.le_of_ble_eq_true rfl⟩ (hi.sh rfl rfl) ⟨_, _, by decide, rfl⟩ rfl (Nat.le_of_ble_eq_true rfl) (K))))
theorem bX11_feed_47 {G : GX} {h : mH} {Q : mO → mH → Prop} (hi : Iv h) (K : Q (.inl (some (.int (gI h 83 9)))) h) : Vw G jX11_feed 47 [some (.ref 83), none, none, none, none, none] [] h Q :=
  s_aload_n dX11_feed_47 rfl (s_getI dX11_feed_48 flX11_116 (Or.inl rfl) (hi.sh rfl rfl) (s_ireturn dX11_feed_51 rfl K))
theorem eX11_feed {G : GX} {h : mH} {Q : mO → mH → Prop} {v1 : Int32} {v2 : Int32} {v3 : Int32} {v4 : Int32} {v5 : Int32} (hi : Iv h) (K : (((gI (pI h 83 0 0) 83 9) + 20) ≤ 400 → WM G jX11_lays [.ref 83, .int v1] (pI h 83 0 0) (Aft G jX11_feed 22 [some (.ref 83), none, some (.int v2), some (.int v3), some (.int v4), some (.int v5)] [] Q)) ∧ (¬ ((gI (pI h 83 0 0) 83 9) + 20) ≤ 400 → Q (.inl (some (.int (-1)))) (pI h 83 0 0))) : WM G jX11_feed [.ref 83, .int v1, .int v2, .int v3, .int v4, .int v5] h Q :=
  WM.body (ls := [some (.ref 83), some (.int v1), some (.int v2), some (.int v3), some (.int v4), some (.int v5)]) rfl (by decide +kernel) rfl (Nat.le_of_ble_eq_true rfl) rfl ((bX11_feed_0 hi  K))
theorem dX11_byteAt_0 : decode cX11_byteAt 0 = .ok (.iload_n 1, 1) := by decide +kernel
theorem dX11_byteAt_1 : decode cX11_byteAt 1 = .ok (.aload_n 0, 1) := by decide +kernel
theorem dX11_byteAt_2 : decode cX11_byteAt 2 = .ok (.getfield 123, 3) := by decide +kernel
theorem dX11_byteAt_5 : decode cX11_byteAt 5 = .ok (.if_icmp .ge 12, 3) := by decide +kernel
theorem dX11_byteAt_8 : decode cX11_byteAt 8 = .ok (.aload_n 0, 1) := by decide +kernel
theorem dX11_byteAt_9 : decode cX11_byteAt 9 = .ok (.getfield 25, 3) := by decide +kernel
theorem dX11_byteAt_12 : decode cX11_byteAt 12 = .ok (.iload_n 1, 1) := by decide +kernel
theorem dX11_byteAt_13 : decode cX11_byteAt 13 = .ok (.iaload, 1) := by decide +kernel
theorem dX11_byteAt_14 : decode cX11_byteAt 14 = .ok (.goto 4, 3) := by decide +kernel
theorem dX11_byteAt_17 : decode cX11_byteAt 17 = .ok (.iconst 0, 1) := by decide +kernel
theorem dX11_byteAt_18 : decode cX11_byteAt 18 = .ok (.ireturn, 1) := by decide +kernel
theorem bX11_byteAt_0 {G : GX} {h : mH} {Q : mO → mH → Prop} {v1 : Int32} (hi : Iv h) (K : ((gI h 83 13) ≤ v1 → Q (.inl (some (.int 0))) h) ∧ (¬ (gI h 83 13) ≤ v1 → (vp_in v1 400 ∧ Q (.inl (some (.int (gI h 89 (Int32.toNatClampNeg v1))))) h))) : Vw G jX11_byteAt 0 [some (.ref 83), some (.int v1)] [] h Q :=
  s_iload_n dX11_byteAt_0 rfl (s_aload_n dX11_byteAt_1 rfl (s_getI dX11_byteAt_2 flX11_123 (Or.inl rfl) (hi.sh rfl rfl) (s_icmp_ge 17 dX11_byteAt_5 rfl (fun q3 => s_iconst 0 dX11_byteAt_17 (by decide) (s_ireturn dX11_byteAt_18 rfl (K.1 q3))) (fun q3 => s_aload_n dX11_byteAt_8 rfl (s_getR (v := .ref 89) dX11_byteAt_9 flX11_25 rfl (hi.sh rfl rfl) (hi.rf (o := 83) (k := 8) (d := 6) rfl rfl) (s_iload_n dX11_byteAt_12 rfl (s_iaload dX11_byteAt_13 (hi.sh rfl rfl) (K.2 q3).1 (s_goto 18 dX11_byteAt_14 rfl (s_ireturn dX11_byteAt_18 rfl (K.2 q3).2)))))))))
theorem eX11_byteAt {G : GX} {h : mH} {Q : mO → mH → Prop} {v1 : Int32} (hi : Iv h) (K : ((gI h 83 13) ≤ v1 → Q (.inl (some (.int 0))) h) ∧ (¬ (gI h 83 13) ≤ v1 → (vp_in v1 400 ∧ Q (.inl (some (.int (gI h 89 (Int32.toNatClampNeg v1))))) h))) : WM G jX11_byteAt [.ref 83, .int v1] h Q :=
  WM.body (ls := [some (.ref 83), some (.int v1)]) rfl (by decide +kernel) rfl (Nat.le_of_ble_eq_true rfl) rfl ((bX11_byteAt_0 hi  K))
theorem dX11_steps_0 : decode cX11_steps 0 = .ok (.aload_n 0, 1) := by decide +kernel
theorem dX11_steps_1 : decode cX11_steps 1 = .ok (.getfield 126, 3) := by decide +kernel
theorem dX11_steps_4 : decode cX11_steps 4 = .ok (.aload_n 0, 1) := by decide +kernel
theorem dX11_steps_5 : decode cX11_steps 5 = .ok (.getfield 123, 3) := by decide +kernel
theorem dX11_steps_8 : decode cX11_steps 8 = .ok (.if_icmp .ge 42, 3) := by decide +kernel
theorem dX11_steps_11 : decode cX11_steps 11 = .ok (.aload_n 0, 1) := by decide +kernel
theorem dX11_steps_12 : decode cX11_steps 12 = .ok (.aload_n 0, 1) := by decide +kernel
theorem dX11_steps_13 : decode cX11_steps 13 = .ok (.getfield 126, 3) := by decide +kernel
theorem dX11_steps_16 : decode cX11_steps 16 = .ok (.invokevirtual 129, 3) := by decide +kernel
theorem dX11_steps_19 : decode cX11_steps 19 = .ok (.bipush 32, 2) := by decide +kernel
theorem dX11_steps_21 : decode cX11_steps 21 = .ok (.if_icmp .eq 16, 3) := by decide +kernel
theorem dX11_steps_24 : decode cX11_steps 24 = .ok (.aload_n 0, 1) := by decide +kernel
theorem dX11_steps_25 : decode cX11_steps 25 = .ok (.aload_n 0, 1) := by decide +kernel
theorem dX11_steps_26 : decode cX11_steps 26 = .ok (.getfield 126, 3) := by decide +kernel
theorem dX11_steps_29 : decode cX11_steps 29 = .ok (.invokevirtual 129, 3) := by decide +kernel
theorem dX11_steps_32 : decode cX11_steps 32 = .ok (.bipush 10, 2) := by decide +kernel
theorem dX11_steps_34 : decode cX11_steps 34 = .ok (.if_icmp .ne 16, 3) := by decide +kernel
theorem dX11_steps_37 : decode cX11_steps 37 = .ok (.aload_n 0, 1) := by decide +kernel
theorem dX11_steps_38 : decode cX11_steps 38 = .ok (.dup, 1) := by decide +kernel
theorem dX11_steps_39 : decode cX11_steps 39 = .ok (.getfield 126, 3) := by decide +kernel
theorem dX11_steps_42 : decode cX11_steps 42 = .ok (.iconst 1, 1) := by decide +kernel
theorem dX11_steps_43 : decode cX11_steps 43 = .ok (.iadd, 1) := by decide +kernel
theorem dX11_steps_44 : decode cX11_steps 44 = .ok (.putfield 126, 3) := by decide +kernel
theorem dX11_steps_47 : decode cX11_steps 47 = .ok (.goto (-47), 3) := by decide +kernel
theorem dX11_steps_50 : decode cX11_steps 50 = .ok (.aload_n 0, 1) := by decide +kernel
theorem dX11_steps_51 : decode cX11_steps 51 = .ok (.aload_n 0, 1) := by decide +kernel
theorem dX11_steps_52 : decode cX11_steps 52 = .ok (.getfield 126, 3) := by decide +kernel
theorem dX11_steps_55 : decode cX11_steps 55 = .ok (.putfield 133, 3) := by decide +kernel
theorem dX11_steps_58 : decode cX11_steps 58 = .ok (.aload_n 0, 1) := by decide +kernel
theorem dX11_steps_59 : decode cX11_steps 59 = .ok (.lconst 0, 1) := by decide +kernel
theorem dX11_steps_60 : decode cX11_steps 60 = .ok (.putfield 136, 3) := by decide +kernel
theorem dX11_steps_63 : decode cX11_steps 63 = .ok (.aload_n 0, 1) := by decide +kernel
theorem dX11_steps_64 : decode cX11_steps 64 = .ok (.iconst 0, 1) := by decide +kernel
theorem dX11_steps_65 : decode cX11_steps 65 = .ok (.putfield 140, 3) := by decide +kernel
theorem dX11_steps_68 : decode cX11_steps 68 = .ok (.aload_n 0, 1) := by decide +kernel
theorem dX11_steps_69 : decode cX11_steps 69 = .ok (.aload_n 0, 1) := by decide +kernel
theorem dX11_steps_70 : decode cX11_steps 70 = .ok (.getfield 126, 3) := by decide +kernel
theorem dX11_steps_73 : decode cX11_steps 73 = .ok (.invokevirtual 129, 3) := by decide +kernel
theorem dX11_steps_76 : decode cX11_steps 76 = .ok (.istore_n 1, 1) := by decide +kernel
theorem dX11_steps_77 : decode cX11_steps 77 = .ok (.aload_n 0, 1) := by decide +kernel
theorem dX11_steps_78 : decode cX11_steps 78 = .ok (.iload_n 1, 1) := by decide +kernel
theorem dX11_steps_79 : decode cX11_steps 79 = .ok (.putfield 143, 3) := by decide +kernel
theorem dX11_steps_82 : decode cX11_steps 82 = .ok (.aload_n 0, 1) := by decide +kernel
theorem dX11_steps_83 : decode cX11_steps 83 = .ok (.getfield 126, 3) := by decide +kernel
theorem dX11_steps_86 : decode cX11_steps 86 = .ok (.aload_n 0, 1) := by decide +kernel
theorem dX11_steps_87 : decode cX11_steps 87 = .ok (.getfield 123, 3) := by decide +kernel
theorem dX11_steps_90 : decode cX11_steps 90 = .ok (.if_icmp .lt 11, 3) := by decide +kernel
theorem dX11_steps_93 : decode cX11_steps 93 = .ok (.aload_n 0, 1) := by decide +kernel
theorem dX11_steps_94 : decode cX11_steps 94 = .ok (.iconst 0, 1) := by decide +kernel
theorem dX11_steps_95 : decode cX11_steps 95 = .ok (.putfield 146, 3) := by decide +kernel
theorem dX11_steps_98 : decode cX11_steps 98 = .ok (.goto 203, 3) := by decide +kernel
theorem dX11_steps_101 : decode cX11_steps 101 = .ok (.iload_n 1, 1) := by decide +kernel
theorem dX11_steps_102 : decode cX11_steps 102 = .ok (.invokestatic 149, 3) := by decide +kernel
theorem dX11_steps_105 : decode cX11_steps 105 = .ok (.ifCond .eq 75, 3) := by decide +kernel
theorem dX11_steps_108 : decode cX11_steps 108 = .ok (.aload_n 0, 1) := by decide +kernel
theorem dX11_steps_109 : decode cX11_steps 109 = .ok (.aload_n 0, 1) := by decide +kernel
theorem dX11_steps_110 : decode cX11_steps 110 = .ok (.getfield 126, 3) := by decide +kernel
theorem dX11_steps_113 : decode cX11_steps 113 = .ok (.invokevirtual 129, 3) := by decide +kernel
theorem dX11_steps_116 : decode cX11_steps 116 = .ok (.invokestatic 149, 3) := by decide +kernel
theorem dX11_steps_119 : decode cX11_steps 119 = .ok (.ifCond .eq 53, 3) := by decide +kernel
theorem dX11_steps_122 : decode cX11_steps 122 = .ok (.aload_n 0, 1) := by decide +kernel
theorem dX11_steps_123 : decode cX11_steps 123 = .ok (.getfield 126, 3) := by decide +kernel
theorem dX11_steps_126 : decode cX11_steps 126 = .ok (.aload_n 0, 1) := by decide +kernel
theorem dX11_steps_127 : decode cX11_steps 127 = .ok (.getfield 133, 3) := by decide +kernel
theorem dX11_steps_130 : decode cX11_steps 130 = .ok (.isub, 1) := by decide +kernel
theorem dX11_steps_131 : decode cX11_steps 131 = .ok (.bipush 8, 2) := by decide +kernel
theorem dX11_steps_133 : decode cX11_steps 133 = .ok (.if_icmp .ge 26, 3) := by decide +kernel
theorem dX11_steps_136 : decode cX11_steps 136 = .ok (.aload_n 0, 1) := by decide +kernel
theorem dX11_steps_137 : decode cX11_steps 137 = .ok (.aload_n 0, 1) := by decide +kernel
theorem dX11_steps_138 : decode cX11_steps 138 = .ok (.getfield 136, 3) := by decide +kernel
theorem dX11_steps_141 : decode cX11_steps 141 = .ok (.iconst 5, 1) := by decide +kernel
theorem dX11_steps_142 : decode cX11_steps 142 = .ok (.lshl, 1) := by decide +kernel
theorem dX11_steps_143 : decode cX11_steps 143 = .ok (.aload_n 0, 1) := by decide +kernel
theorem dX11_steps_144 : decode cX11_steps 144 = .ok (.aload_n 0, 1) := by decide +kernel
theorem dX11_steps_145 : decode cX11_steps 145 = .ok (.getfield 126, 3) := by decide +kernel
theorem dX11_steps_148 : decode cX11_steps 148 = .ok (.invokevirtual 129, 3) := by decide +kernel
theorem dX11_steps_151 : decode cX11_steps 151 = .ok (.bipush 96, 2) := by decide +kernel
theorem dX11_steps_153 : decode cX11_steps 153 = .ok (.isub, 1) := by decide +kernel
theorem dX11_steps_154 : decode cX11_steps 154 = .ok (.i2l, 1) := by decide +kernel
theorem dX11_steps_155 : decode cX11_steps 155 = .ok (.lor, 1) := by decide +kernel
theorem dX11_steps_156 : decode cX11_steps 156 = .ok (.putfield 136, 3) := by decide +kernel
theorem dX11_steps_159 : decode cX11_steps 159 = .ok (.aload_n 0, 1) := by decide +kernel
theorem dX11_steps_160 : decode cX11_steps 160 = .ok (.dup, 1) := by decide +kernel
theorem dX11_steps_161 : decode cX11_steps 161 = .ok (.getfield 126, 3) := by decide +kernel
theorem dX11_steps_164 : decode cX11_steps 164 = .ok (.iconst 1, 1) := by decide +kernel
theorem dX11_steps_165 : decode cX11_steps 165 = .ok (.iadd, 1) := by decide +kernel
theorem dX11_steps_166 : decode cX11_steps 166 = .ok (.putfield 126, 3) := by decide +kernel
theorem dX11_steps_169 : decode cX11_steps 169 = .ok (.goto (-61), 3) := by decide +kernel
theorem dX11_steps_172 : decode cX11_steps 172 = .ok (.aload_n 0, 1) := by decide +kernel
theorem dX11_steps_173 : decode cX11_steps 173 = .ok (.iconst 1, 1) := by decide +kernel
theorem dX11_steps_174 : decode cX11_steps 174 = .ok (.putfield 146, 3) := by decide +kernel
theorem dX11_steps_177 : decode cX11_steps 177 = .ok (.goto 124, 3) := by decide +kernel
theorem dX11_steps_180 : decode cX11_steps 180 = .ok (.iload_n 1, 1) := by decide +kernel
theorem dX11_steps_181 : decode cX11_steps 181 = .ok (.invokestatic 153, 3) := by decide +kernel
theorem dX11_steps_184 : decode cX11_steps 184 = .ok (.ifCond .eq 74, 3) := by decide +kernel
theorem dX11_steps_187 : decode cX11_steps 187 = .ok (.aload_n 0, 1) := by decide +kernel
theorem dX11_steps_188 : decode cX11_steps 188 = .ok (.aload_n 0, 1) := by decide +kernel
theorem dX11_steps_189 : decode cX11_steps 189 = .ok (.getfield 126, 3) := by decide +kernel
theorem dX11_steps_192 : decode cX11_steps 192 = .ok (.invokevirtual 129, 3) := by decide +kernel
theorem dX11_steps_195 : decode cX11_steps 195 = .ok (.invokestatic 153, 3) := by decide +kernel
theorem dX11_steps_198 : decode cX11_steps 198 = .ok (.ifCond .eq 52, 3) := by decide +kernel
theorem dX11_steps_201 : decode cX11_steps 201 = .ok (.aload_n 0, 1) := by decide +kernel
theorem dX11_steps_202 : decode cX11_steps 202 = .ok (.getfield 126, 3) := by decide +kernel
theorem dX11_steps_205 : decode cX11_steps 205 = .ok (.aload_n 0, 1) := by decide +kernel
theorem dX11_steps_206 : decode cX11_steps 206 = .ok (.getfield 133, 3) := by decide +kernel
theorem dX11_steps_209 : decode cX11_steps 209 = .ok (.isub, 1) := by decide +kernel
theorem dX11_steps_210 : decode cX11_steps 210 = .ok (.iconst 3, 1) := by decide +kernel
theorem dX11_steps_211 : decode cX11_steps 211 = .ok (.if_icmp .ge 26, 3) := by decide +kernel
theorem dX11_steps_214 : decode cX11_steps 214 = .ok (.aload_n 0, 1) := by decide +kernel
theorem dX11_steps_215 : decode cX11_steps 215 = .ok (.bipush 10, 2) := by decide +kernel
theorem dX11_steps_217 : decode cX11_steps 217 = .ok (.aload_n 0, 1) := by decide +kernel
theorem dX11_steps_218 : decode cX11_steps 218 = .ok (.getfield 140, 3) := by decide +kernel
theorem dX11_steps_221 : decode cX11_steps 221 = .ok (.imul, 1) := by decide +kernel
theorem dX11_steps_222 : decode cX11_steps 222 = .ok (.aload_n 0, 1) := by decide +kernel
theorem dX11_steps_223 : decode cX11_steps 223 = .ok (.aload_n 0, 1) := by decide +kernel
theorem dX11_steps_224 : decode cX11_steps 224 = .ok (.getfield 126, 3) := by decide +kernel
theorem dX11_steps_227 : decode cX11_steps 227 = .ok (.invokevirtual 129, 3) := by decide +kernel
theorem dX11_steps_230 : decode cX11_steps 230 = .ok (.iadd, 1) := by decide +kernel
theorem dX11_steps_231 : decode cX11_steps 231 = .ok (.bipush 48, 2) := by decide +kernel
theorem dX11_steps_233 : decode cX11_steps 233 = .ok (.isub, 1) := by decide +kernel
theorem dX11_steps_234 : decode cX11_steps 234 = .ok (.putfield 140, 3) := by decide +kernel
theorem dX11_steps_237 : decode cX11_steps 237 = .ok (.aload_n 0, 1) := by decide +kernel
theorem dX11_steps_238 : decode cX11_steps 238 = .ok (.dup, 1) := by decide +kernel
theorem dX11_steps_239 : decode cX11_steps 239 = .ok (.getfield 126, 3) := by decide +kernel
theorem dX11_steps_242 : decode cX11_steps 242 = .ok (.iconst 1, 1) := by decide +kernel
theorem dX11_steps_243 : decode cX11_steps 243 = .ok (.iadd, 1) := by decide +kernel
theorem dX11_steps_244 : decode cX11_steps 244 = .ok (.putfield 126, 3) := by decide +kernel
theorem dX11_steps_247 : decode cX11_steps 247 = .ok (.goto (-60), 3) := by decide +kernel
theorem dX11_steps_250 : decode cX11_steps 250 = .ok (.aload_n 0, 1) := by decide +kernel
theorem dX11_steps_251 : decode cX11_steps 251 = .ok (.iconst 2, 1) := by decide +kernel
theorem dX11_steps_252 : decode cX11_steps 252 = .ok (.putfield 146, 3) := by decide +kernel
theorem dX11_steps_255 : decode cX11_steps 255 = .ok (.goto 46, 3) := by decide +kernel
theorem dX11_steps_258 : decode cX11_steps 258 = .ok (.aload_n 0, 1) := by decide +kernel
theorem dX11_steps_259 : decode cX11_steps 259 = .ok (.dup, 1) := by decide +kernel
theorem dX11_steps_260 : decode cX11_steps 260 = .ok (.getfield 126, 3) := by decide +kernel
theorem dX11_steps_263 : decode cX11_steps 263 = .ok (.iconst 1, 1) := by decide +kernel
theorem dX11_steps_264 : decode cX11_steps 264 = .ok (.iadd, 1) := by decide +kernel
theorem dX11_steps_265 : decode cX11_steps 265 = .ok (.putfield 126, 3) := by decide +kernel
theorem dX11_steps_268 : decode cX11_steps 268 = .ok (.aload_n 0, 1) := by decide +kernel
theorem dX11_steps_269 : decode cX11_steps 269 = .ok (.iload_n 1, 1) := by decide +kernel
theorem dX11_steps_270 : decode cX11_steps 270 = .ok (.bipush 59, 2) := by decide +kernel
theorem dX11_steps_272 : decode cX11_steps 272 = .ok (.if_icmp .eq 21, 3) := by decide +kernel
theorem dX11_steps_275 : decode cX11_steps 275 = .ok (.iload_n 1, 1) := by decide +kernel
theorem dX11_steps_276 : decode cX11_steps 276 = .ok (.bipush 45, 2) := by decide +kernel
theorem dX11_steps_278 : decode cX11_steps 278 = .ok (.if_icmp .eq 15, 3) := by decide +kernel
theorem dX11_steps_281 : decode cX11_steps 281 = .ok (.iload_n 1, 1) := by decide +kernel
theorem dX11_steps_282 : decode cX11_steps 282 = .ok (.bipush 40, 2) := by decide +kernel
theorem dX11_steps_284 : decode cX11_steps 284 = .ok (.if_icmp .eq 9, 3) := by decide +kernel
theorem dX11_steps_287 : decode cX11_steps 287 = .ok (.iload_n 1, 1) := by decide +kernel
theorem dX11_steps_288 : decode cX11_steps 288 = .ok (.bipush 41, 2) := by decide +kernel
theorem dX11_steps_290 : decode cX11_steps 290 = .ok (.if_icmp .ne 7, 3) := by decide +kernel
theorem dX11_steps_293 : decode cX11_steps 293 = .ok (.iconst 3, 1) := by decide +kernel
theorem dX11_steps_294 : decode cX11_steps 294 = .ok (.goto 4, 3) := by decide +kernel
theorem dX11_steps_297 : decode cX11_steps 297 = .ok (.iconst 4, 1) := by decide +kernel
theorem dX11_steps_298 : decode cX11_steps 298 = .ok (.putfield 146, 3) := by decide +kernel
theorem dX11_steps_301 : decode cX11_steps 301 = .ok (.aload_n 0, 1) := by decide +kernel
theorem dX11_steps_302 : decode cX11_steps 302 = .ok (.aload_n 0, 1) := by decide +kernel
theorem dX11_steps_303 : decode cX11_steps 303 = .ok (.getfield 126, 3) := by decide +kernel
theorem dX11_steps_306 : decode cX11_steps 306 = .ok (.aload_n 0, 1) := by decide +kernel
theorem dX11_steps_307 : decode cX11_steps 307 = .ok (.getfield 133, 3) := by decide +kernel
theorem dX11_steps_310 : decode cX11_steps 310 = .ok (.isub, 1) := by decide +kernel
theorem dX11_steps_311 : decode cX11_steps 311 = .ok (.putfield 156, 3) := by decide +kernel
theorem dX11_steps_314 : decode cX11_steps 314 = .ok (.return_, 1) := by decide +kernel
theorem bX11_steps_0 {G : GX} {h : mH} {Q : mO → mH → Prop} (hi : Iv h) (K : ((gI h 83 13) ≤ (gI h 83 14) → Vw G jX11_steps 50 [some (.ref 83), none] [] h Q) ∧ (¬ (gI h 83 13) ≤ (gI h 83 14) → WM G jX11_byteAt [.ref 83, .int (gI h 83 14)] h (Aft G jX11_steps 16 [some (.ref 83), none] [] Q))) : Vw G jX11_steps 0 [some (.ref 83), none] [] h Q :=
  s_aload_n dX11_steps_0 rfl (s_getI dX11_steps_1 flX11_126 (Or.inl rfl) (hi.sh rfl rfl) (s_aload_n dX11_steps_4 rfl (s_getI dX11_steps_5 flX11_123 (Or.inl rfl) (hi.sh rfl rfl) (s_icmp_ge 50 dX11_steps_8 rfl (fun q4 => (K.1 q4)) (fun q4 => s_aload_n dX11_steps_11 rfl (s_aload_n dX11_steps_12 rfl (s_getI dX11_steps_13 flX11_126 (Or.inl rfl) (hi.sh rfl rfl) (s_callV (As := [.int (gI h 83 14)]) dX11_steps_16 rfl lvX11_129 ⟨Nat.le_of_ble_eq_true rfl, Nat.le_of_ble_eq_true rfl⟩ (hi.sh rfl rfl) ⟨_, _, by decide, rfl⟩ rfl (Nat.le_of_ble_eq_true rfl) ((K.2 q4))))))))))
theorem bX11_steps_19 {G : GX} {h : mH} {Q : mO → mH → Prop} {vs0 : Int32} (hi : Iv h) (K : (vs0 = 32 → Vw G jX11_steps 37 [some (.ref 83), none] [] h Q) ∧ (¬ vs0 = 32 → WM G jX11_byteAt [.ref 83, .int (gI h 83 14)] h (Aft G jX11_steps 29 [some (.ref 83), none] [] Q))) : Vw G jX11_steps 19 [some (.ref 83), none] [.int vs0] h Q :=
  s_bipush 32 dX11_steps_19 (by decide) (s_icmp_eq 37 dX11_steps_21 rfl (fun q1 => (K.1 q1)) (fun q1 => s_aload_n dX11_steps_24 rfl (s_aload_n dX11_steps_25 rfl (s_getI dX11_steps_26 flX11_126 (Or.inl rfl) (hi.sh rfl rfl) (s_callV (As := [.int (gI h 83 14)]) dX11_steps_29 rfl lvX11_129 ⟨Nat.le_of_ble_eq_true rfl, Nat.le_of_ble_eq_true rfl⟩ (hi.sh rfl rfl) ⟨_, _, by decide, rfl⟩ rfl (Nat.le_of_ble_eq_true rfl) ((K.2 q1)))))))
theorem bX11_steps_32 {G : GX} {h : mH} {Q : mO → mH → Prop} {vs0 : Int32} (hi : Iv h) (K : (¬ vs0 = 10 → Vw G jX11_steps 50 [some (.ref 83), none] [] h Q) ∧ (vs0 = 10 → Vw G jX11_steps 37 [some (.ref 83), none] [] h Q)) : Vw G jX11_steps 32 [some (.ref 83), none] [.int vs0] h Q :=
  s_bipush 10 dX11_steps_32 (by decide) (s_icmp_ne 50 dX11_steps_34 rfl (fun q1 => (K.1 q1)) (fun q1 => (K.2 q1)))
theorem bX11_steps_37 {G : GX} {h : mH} {Q : mO → mH → Prop} (hi : Iv h) (K : Vw G jX11_steps 0 [some (.ref 83), none] [] (pI h 83 14 ((gI h 83 14) + 1)) Q) : Vw G jX11_steps 37 [some (.ref 83), none] [] h Q :=
  s_aload_n dX11_steps_37 rfl (s_dupr dX11_steps_38 (s_getI dX11_steps_39 flX11_126 (Or.inl rfl) (hi.sh rfl rfl) (s_iconst 1 dX11_steps_42 (by decide) (s_iadd dX11_steps_43 (s_putI dX11_steps_44 flX11_126 ff10_14 rfl (hi.sh rfl rfl) (s_goto 0 dX11_steps_47 rfl (K)))))))
theorem bX11_steps_50 {G : GX} {h : mH} {Q : mO → mH → Prop} (hi : Iv h) (K : WM G jX11_byteAt [.ref 83, .int (gI (pI (pJ (pI h 83 16 (gI h 83 14)) 83 20 0) 83 18 0) 83 14)] (pI (pJ (pI h 83 16 (gI h 83 14)) 83 20 0) 83 18 0) (Aft G jX11_steps 73 [some (.ref 83), none] [] Q)) : Vw G jX11_steps 50 [some (.ref 83), none] [] h Q :=
  s_aload_n dX11_steps_50 rfl (s_aload_n dX11_steps_51 rfl (s_getI dX11_steps_52 flX11_126 (Or.inl rfl) (hi.sh rfl rfl) (s_putI dX11_steps_55 flX11_133 ff10_16 rfl (hi.sh rfl rfl) (s_aload_n dX11_steps_58 rfl (s_lconst 0 dX11_steps_59 (by decide) (s_putJ dX11_steps_60 flX11_136 ff10_20 rfl (hi.sh rfl rfl) (s_aload_n dX11_steps_63 rfl (s_iconst 0 dX11_steps_64 (by decide) (s_putI dX11_steps_65 flX11_140 ff10_18 rfl (hi.sh rfl rfl) (s_aload_n dX11_steps_68 rfl (s_aload_n dX11_steps_69 rfl (s_getI dX11_steps_70 flX11_126 (Or.inl rfl) (hi.sh rfl rfl) (s_callV (As := [.int (gI (pI (pJ (pI h 83 16 (gI h 83 14)) 83 20 0) 83 18 0) 83 14)]) dX11_steps_73 rfl lvX11_129 ⟨Nat.le_of_ble_eq_true rfl, Nat.le_of_ble_eq_true rfl⟩ (hi.sh rfl rfl) ⟨_, _, by decide, rfl⟩ rfl (Nat.le_of_ble_eq_true rfl) (K))))))))))))))
theorem bX11_steps_76 {G : GX} {h : mH} {Q : mO → mH → Prop} {vs0 : Int32} (hi : Iv h) (K : ((gI (pI h 83 19 vs0) 83 14) < (gI (pI h 83 19 vs0) 83 13) → (((fX11_isLetter vs0) = 0 → (((fX11_isDigit vs0) = 0 → ((vs0 = 59 → Vw G jX11_steps 301 [some (.ref 83), none] [] (pI (pI (pI h 83 19 vs0) 83 14 ((gI (pI h 83 19 vs0) 83 14) + 1)) 83 15 3) Q) ∧ (¬ vs0 = 59 → ((vs0 = 45 → Vw G jX11_steps 301 [some (.ref 83), none] [] (pI (pI (pI h 83 19 vs0) 83 14 ((gI (pI h 83 19 vs0) 83 14) + 1)) 83 15 3) Q) ∧ (¬ vs0 = 45 → ((vs0 = 40 → Vw G jX11_steps 301 [some (.ref 83), none] [] (pI (pI (pI h 83 19 vs0) 83 14 ((gI (pI h 83 19 vs0) 83 14) + 1)) 83 15 3) Q) ∧ (¬ vs0 = 40 → ((¬ vs0 = 41 → Vw G jX11_steps 301 [some (.ref 83), none] [] (pI (pI (pI h 83 19 vs0) 83 14 ((gI (pI h 83 19 vs0) 83 14) + 1)) 83 15 4) Q) ∧ (vs0 = 41 → Vw G jX11_steps 301 [some (.ref 83), none] [] (pI (pI (pI h 83 19 vs0) 83 14 ((gI (pI h 83 19 vs0) 83 14) + 1)) 83 15 3) Q))))))))) ∧ (¬ (fX11_isDigit vs0) = 0 → Vw G jX11_steps 187 [some (.ref 83), none] [] (pI h 83 19 vs0) Q))) ∧ (¬ (fX11_isLetter vs0) = 0 → Vw G jX11_steps 108 [some (.ref 83), none] [] (pI h 83 19 vs0) Q))) ∧ (¬ (gI (pI h 83 19 vs0) 83 14) < (gI (pI h 83 19 vs0) 83 13) → Vw G jX11_steps 301 [some (.ref 83), none] [] (pI (pI h 83 19 vs0) 83 15 0) Q)) : Vw G jX11_steps 76 [some (.ref 83), none] [.int vs0] h Q :=
  s_istore_n dX11_steps_76 (Nat.le_of_ble_eq_true rfl) rfl (s_aload_n dX11_steps_77 rfl (s_iload_n dX11_steps_78 rfl (s_putI dX11_steps_79 flX11_143 ff10_19 rfl (hi.sh rfl rfl) (s_aload_n dX11_steps_82 rfl (s_getI dX11_steps_83 flX11_126 (Or.inl rfl) (hi.sh rfl rfl) (s_aload_n dX11_steps_86 rfl (s_getI dX11_steps_87 flX11_123 (Or.inl rfl) (hi.sh rfl rfl) (s_icmp_lt 101 dX11_steps_90 rfl (fun q8 => s_iload_n dX11_steps_101 rfl (s_callS (As := [.int vs0]) dX11_steps_102 rfl lsX11_149 ⟨Nat.le_of_ble_eq_true rfl, Nat.le_of_ble_eq_true rfl⟩ rfl (Nat.le_of_ble_eq_true rfl) (mX11_isLetter   (s_if_eq 180 dX11_steps_105 rfl (fun q11 => s_iload_n dX11_steps_180 rfl (s_callS (As := [.int vs0]) dX11_steps_181 rfl lsX11_153 ⟨Nat.le_of_ble_eq_true rfl, Nat.le_of_ble_eq_true rfl⟩ rfl (Nat.le_of_ble_eq_true rfl) (mX11_isDigit   (s_if_eq 258 dX11_steps_184 rfl (fun q14 => s_aload_n dX11_steps_258 rfl (s_dupr dX11_steps_259 (s_getI dX11_steps_260 flX11_126 (Or.inl rfl) (hi.sh rfl rfl) (s_iconst 1 dX11_steps_263 (by decide) (s_iadd dX11_steps_264 (s_putI dX11_steps_265 flX11_126 ff10_14 rfl (hi.sh rfl rfl) (s_aload_n dX11_steps_268 rfl (s_iload_n dX11_steps_269 rfl (s_bipush 59 dX11_steps_270 (by decide) (s_icmp_eq 293 dX11_steps_272 rfl (fun q24 => s_iconst 3 dX11_steps_293 (by decide) (s_goto 298 dX11_steps_294 rfl (s_putI dX11_steps_298 flX11_146 ff10_15 rfl (hi.sh rfl rfl) (Vw.mask [true, false] (((((K.1 q8).1 q11).1 q14).1 q24)))))) (fun q24 => s_iload_n dX11_steps_275 rfl (s_bipush 45 dX11_steps_276 (by decide) (s_icmp_eq 293 dX11_steps_278 rfl (fun q27 => s_iconst 3 dX11_steps_293 (by decide) (s_goto 298 dX11_steps_294 rfl (s_putI dX11_steps_298 flX11_146 ff10_15 rfl (hi.sh rfl rfl) (Vw.mask [true, false] ((((((K.1 q8).1 q11).1 q14).2 q24).1 q27)))))) (fun q27 => s_iload_n dX11_steps_281 rfl (s_bipush 40 dX11_steps_282 (by decide) (s_icmp_eq 293 dX11_steps_284 rfl (fun q30 => s_iconst 3 dX11_steps_293 (by decide) (s_goto 298 dX11_steps_294 rfl (s_putI dX11_steps_298 flX11_146 ff10_15 rfl (hi.sh rfl rfl) (Vw.mask [true, false] (((((((K.1 q8).1 q11).1 q14).2 q24).2 q27).1 q30)))))) (fun q30 => s_iload_n dX11_steps_287 rfl (s_bipush 41 dX11_steps_288 (by decide) (s_icmp_ne 297 dX11_steps_290 rfl (fun q33 => s_iconst 4 dX11_steps_297 (by decide) (s_putI dX11_steps_298 flX11_146 ff10_15 rfl (hi.sh rfl rfl) (Vw.mask [true, false] ((((((((K.1 q8).1 q11).1 q14).2 q24).2 q27).2 q30).1 q33))))) (fun q33 => s_iconst 3 dX11_steps_293 (by decide) (s_goto 298 dX11_steps_294 rfl (s_putI dX11_steps_298 flX11_146 ff10_15 rfl (hi.sh rfl rfl) (Vw.mask [true, false] ((((((((K.1 q8).1 q11).1 q14).2 q24).2 q27).2 q30).2 q33))))))))))))))))))))))))) (fun q14 => Vw.mask [true, false] ((((K.1 q8).1 q11).2 q14))))))) (fun q11 => Vw.mask [true, false] (((K.1 q8).2 q11))))))) (fun q8 => s_aload_n dX11_steps_93 rfl (s_iconst 0 dX11_steps_94 (by decide) (s_putI dX11_steps_95 flX11_146 ff10_15 rfl (hi.sh rfl rfl) (s_goto 301 dX11_steps_98 rfl (Vw.mask [true, false] ((K.2 q8)))))))))))))))
theorem bX11_steps_108 {G : GX} {h : mH} {Q : mO → mH → Prop} (hi : Iv h) (K : WM G jX11_byteAt [.ref 83, .int (gI h 83 14)] h (Aft G jX11_steps 113 [some (.ref 83), none] [] Q)) : Vw G jX11_steps 108 [some (.ref 83), none] [] h Q :=
  s_aload_n dX11_steps_108 rfl (s_aload_n dX11_steps_109 rfl (s_getI dX11_steps_110 flX11_126 (Or.inl rfl) (hi.sh rfl rfl) (s_callV (As := [.int (gI h 83 14)]) dX11_steps_113 rfl lvX11_129 ⟨Nat.le_of_ble_eq_true rfl, Nat.le_of_ble_eq_true rfl⟩ (hi.sh rfl rfl) ⟨_, _, by decide, rfl⟩ rfl (Nat.le_of_ble_eq_true rfl) (K))))
theorem bX11_steps_116 {G : GX} {h : mH} {Q : mO → mH → Prop} {vs0 : Int32} (hi : Iv h) (K : ((fX11_isLetter vs0) = 0 → Vw G jX11_steps 301 [some (.ref 83), none] [] (pI h 83 15 1) Q) ∧ (¬ (fX11_isLetter vs0) = 0 → ((8 ≤ ((gI h 83 14) - (gI h 83 16)) → Vw G jX11_steps 159 [some (.ref 83), none] [] h Q) ∧ (¬ 8 ≤ ((gI h 83 14) - (gI h 83 16)) → WM G jX11_byteAt [.ref 83, .int (gI h 83 14)] h (Aft G jX11_steps 148 [some (.ref 83), none] [.long ((gJ h 83 20) <<< (Int32.toInt64 5 &&& 63)), .ref 83] Q))))) : Vw G jX11_steps 116 [some (.ref 83), none] [.int vs0] h Q :=
  s_callS (As := [.int vs0]) dX11_steps_116 rfl lsX11_149 ⟨Nat.le_of_ble_eq_true rfl, Nat.le_of_ble_eq_true rfl⟩ rfl (Nat.le_of_ble_eq_true rfl) (mX11_isLetter   (s_if_eq 172 dX11_steps_119 rfl (fun q1 => s_aload_n dX11_steps_172 rfl (s_iconst 1 dX11_steps_173 (by decide) (s_putI dX11_steps_174 flX11_146 ff10_15 rfl (hi.sh rfl rfl) (s_goto 301 dX11_steps_177 rfl ((K.1 q1)))))) (fun q1 => s_aload_n dX11_steps_122 rfl (s_getI dX11_steps_123 flX11_126 (Or.inl rfl) (hi.sh rfl rfl) (s_aload_n dX11_steps_126 rfl (s_getI dX11_steps_127 flX11_133 (Or.inl rfl) (hi.sh rfl rfl) (s_isub dX11_steps_130 (s_bipush 8 dX11_steps_131 (by decide) (s_icmp_ge 159 dX11_steps_133 rfl (fun q8 => ((K.2 q1).1 q8)) (fun q8 => s_aload_n dX11_steps_136 rfl (s_aload_n dX11_steps_137 rfl (s_getJ dX11_steps_138 flX11_136 rfl (hi.sh rfl rfl) (s_iconst 5 dX11_steps_141 (by decide) (s_lshl dX11_steps_142 (s_aload_n dX11_steps_143 rfl (s_aload_n dX11_steps_144 rfl (s_getI dX11_steps_145 flX11_126 (Or.inl rfl) (hi.sh rfl rfl) (s_callV (As := [.int (gI h 83 14)]) dX11_steps_148 rfl lvX11_129 ⟨Nat.le_of_ble_eq_true rfl, Nat.le_of_ble_eq_true rfl⟩ (hi.sh rfl rfl) ⟨_, _, by decide, rfl⟩ rfl (Nat.le_of_ble_eq_true rfl) (((K.2 q1).2 q8))))))))))))))))))))
theorem bX11_steps_151 {G : GX} {h : mH} {Q : mO → mH → Prop} {vs0 : Int32} {vs1 : Int64} (hi : Iv h) (K : Vw G jX11_steps 159 [some (.ref 83), none] [] (pJ h 83 20 (vs1 ||| (Int32.toInt64 (vs0 - 96)))) Q) : Vw G jX11_steps 151 [some (.ref 83), none] [.int vs0, .long vs1, .ref 83] h Q :=
  s_bipush 96 dX11_steps_151 (by decide) (s_isub dX11_steps_153 (s_i2l dX11_steps_154 (s_lor dX11_steps_155 (s_putJ dX11_steps_156 flX11_136 ff10_20 rfl (hi.sh rfl rfl) (K)))))
theorem bX11_steps_159 {G : GX} {h : mH} {Q : mO → mH → Prop} (hi : Iv h) (K : Vw G jX11_steps 108 [some (.ref 83), none] [] (pI h 83 14 ((gI h 83 14) + 1)) Q) : Vw G jX11_steps 159 [some (.ref 83), none] [] h Q :=
  s_aload_n dX11_steps_159 rfl (s_dupr dX11_steps_160 (s_getI dX11_steps_161 flX11_126 (Or.inl rfl) (hi.sh rfl rfl) (s_iconst 1 dX11_steps_164 (by decide) (s_iadd dX11_steps_165 (s_putI dX11_steps_166 flX11_126 ff10_14 rfl (hi.sh rfl rfl) (s_goto 108 dX11_steps_169 rfl (K)))))))
theorem bX11_steps_187 {G : GX} {h : mH} {Q : mO → mH → Prop} (hi : Iv h) (K : WM G jX11_byteAt [.ref 83, .int (gI h 83 14)] h (Aft G jX11_steps 192 [some (.ref 83), none] [] Q)) : Vw G jX11_steps 187 [some (.ref 83), none] [] h Q :=
  s_aload_n dX11_steps_187 rfl (s_aload_n dX11_steps_188 rfl (s_getI dX11_steps_189 flX11_126 (Or.inl rfl) (hi.sh rfl rfl) (s_callV (As := [.int (gI h 83 14)]) dX11_steps_192 rfl lvX11_129 ⟨Nat.le_of_ble_eq_true rfl, Nat.le_of_ble_eq_true rfl⟩ (hi.sh rfl rfl) ⟨_, _, by decide, rfl⟩ rfl (Nat.le_of_ble_eq_true rfl) (K))))
theorem bX11_steps_195 {G : GX} {h : mH} {Q : mO → mH → Prop} {vs0 : Int32} (hi : Iv h) (K : ((fX11_isDigit vs0) = 0 → Vw G jX11_steps 301 [some (.ref 83), none] [] (pI h 83 15 2) Q) ∧ (¬ (fX11_isDigit vs0) = 0 → ((3 ≤ ((gI h 83 14) - (gI h 83 16)) → Vw G jX11_steps 237 [some (.ref 83), none] [] h Q) ∧ (¬ 3 ≤ ((gI h 83 14) - (gI h 83 16)) → WM G jX11_byteAt [.ref 83, .int (gI h 83 14)] h (Aft G jX11_steps 227 [some (.ref 83), none] [.int (10 * (gI h 83 18)), .ref 83] Q))))) : Vw G jX11_steps 195 [some (.ref 83), none] [.int vs0] h Q :=
  s_callS (As := [.int vs0]) dX11_steps_195 rfl lsX11_153 ⟨Nat.le_of_ble_eq_true rfl, Nat.le_of_ble_eq_true rfl⟩ rfl (Nat.le_of_ble_eq_true rfl) (mX11_isDigit   (s_if_eq 250 dX11_steps_198 rfl (fun q1 => s_aload_n dX11_steps_250 rfl (s_iconst 2 dX11_steps_251 (by decide) (s_putI dX11_steps_252 flX11_146 ff10_15 rfl (hi.sh rfl rfl) (s_goto 301 dX11_steps_255 rfl ((K.1 q1)))))) (fun q1 => s_aload_n dX11_steps_201 rfl (s_getI dX11_steps_202 flX11_126 (Or.inl rfl) (hi.sh rfl rfl) (s_aload_n dX11_steps_205 rfl (s_getI dX11_steps_206 flX11_133 (Or.inl rfl) (hi.sh rfl rfl) (s_isub dX11_steps_209 (s_iconst 3 dX11_steps_210 (by decide) (s_icmp_ge 237 dX11_steps_211 rfl (fun q8 => ((K.2 q1).1 q8)) (fun q8 => s_aload_n dX11_steps_214 rfl (s_bipush 10 dX11_steps_215 (by decide) (s_aload_n dX11_steps_217 rfl (s_getI dX11_steps_218 flX11_140 (Or.inl rfl) (hi.sh rfl rfl) (s_imul dX11_steps_221 (s_aload_n dX11_steps_222 rfl (s_aload_n dX11_steps_223 rfl (s_getI dX11_steps_224 flX11_126 (Or.inl rfl) (hi.sh rfl rfl) (s_callV (As := [.int (gI h 83 14)]) dX11_steps_227 rfl lvX11_129 ⟨Nat.le_of_ble_eq_true rfl, Nat.le_of_ble_eq_true rfl⟩ (hi.sh rfl rfl) ⟨_, _, by decide, rfl⟩ rfl (Nat.le_of_ble_eq_true rfl) (((K.2 q1).2 q8))))))))))))))))))))
theorem bX11_steps_230 {G : GX} {h : mH} {Q : mO → mH → Prop} {vs0 : Int32} {vs1 : Int32} (hi : Iv h) (K : Vw G jX11_steps 237 [some (.ref 83), none] [] (pI h 83 18 ((vs1 + vs0) - 48)) Q) : Vw G jX11_steps 230 [some (.ref 83), none] [.int vs0, .int vs1, .ref 83] h Q :=
  s_iadd dX11_steps_230 (s_bipush 48 dX11_steps_231 (by decide) (s_isub dX11_steps_233 (s_putI dX11_steps_234 flX11_140 ff10_18 rfl (hi.sh rfl rfl) (K))))
theorem bX11_steps_237 {G : GX} {h : mH} {Q : mO → mH → Prop} (hi : Iv h) (K : Vw G jX11_steps 187 [some (.ref 83), none] [] (pI h 83 14 ((gI h 83 14) + 1)) Q) : Vw G jX11_steps 237 [some (.ref 83), none] [] h Q :=
  s_aload_n dX11_steps_237 rfl (s_dupr dX11_steps_238 (s_getI dX11_steps_239 flX11_126 (Or.inl rfl) (hi.sh rfl rfl) (s_iconst 1 dX11_steps_242 (by decide) (s_iadd dX11_steps_243 (s_putI dX11_steps_244 flX11_126 ff10_14 rfl (hi.sh rfl rfl) (s_goto 187 dX11_steps_247 rfl (K)))))))
theorem bX11_steps_301 {G : GX} {h : mH} {Q : mO → mH → Prop} (hi : Iv h) (K : Q (.inl none) (pI h 83 17 ((gI h 83 14) - (gI h 83 16)))) : Vw G jX11_steps 301 [some (.ref 83), none] [] h Q :=
  s_aload_n dX11_steps_301 rfl (s_aload_n dX11_steps_302 rfl (s_getI dX11_steps_303 flX11_126 (Or.inl rfl) (hi.sh rfl rfl) (s_aload_n dX11_steps_306 rfl (s_getI dX11_steps_307 flX11_133 (Or.inl rfl) (hi.sh rfl rfl) (s_isub dX11_steps_310 (s_putI dX11_steps_311 flX11_156 ff10_17 rfl (hi.sh rfl rfl) (s_return dX11_steps_314 rfl K)))))))
theorem eX11_steps {G : GX} {h : mH} {Q : mO → mH → Prop} (hi : Iv h) (K : ((gI h 83 13) ≤ (gI h 83 14) → Vw G jX11_steps 50 [some (.ref 83), none] [] h Q) ∧ (¬ (gI h 83 13) ≤ (gI h 83 14) → WM G jX11_byteAt [.ref 83, .int (gI h 83 14)] h (Aft G jX11_steps 16 [some (.ref 83), none] [] Q))) : WM G jX11_steps [.ref 83] h Q :=
  WM.body (ls := [some (.ref 83), none]) rfl (by decide +kernel) rfl (Nat.le_of_ble_eq_true rfl) rfl ((bX11_steps_0 hi  K))
theorem dX11_spelled_0 : decode cX11_spelled 0 = .ok (.iload_n 0, 1) := by decide +kernel
theorem dX11_spelled_1 : decode cX11_spelled 1 = .ok (.i2l, 1) := by decide +kernel
theorem dX11_spelled_2 : decode cX11_spelled 2 = .ok (.ldc2_w 159, 3) := by decide +kernel
theorem dX11_spelled_5 : decode cX11_spelled 5 = .ok (.lsub, 1) := by decide +kernel
theorem dX11_spelled_6 : decode cX11_spelled 6 = .ok (.bipush 10, 2) := by decide +kernel
theorem dX11_spelled_8 : decode cX11_spelled 8 = .ok (.lshl, 1) := by decide +kernel
theorem dX11_spelled_9 : decode cX11_spelled 9 = .ok (.iload_n 1, 1) := by decide +kernel
theorem dX11_spelled_10 : decode cX11_spelled 10 = .ok (.i2l, 1) := by decide +kernel
theorem dX11_spelled_11 : decode cX11_spelled 11 = .ok (.ldc2_w 159, 3) := by decide +kernel
theorem dX11_spelled_14 : decode cX11_spelled 14 = .ok (.lsub, 1) := by decide +kernel
theorem dX11_spelled_15 : decode cX11_spelled 15 = .ok (.iconst 5, 1) := by decide +kernel
theorem dX11_spelled_16 : decode cX11_spelled 16 = .ok (.lshl, 1) := by decide +kernel
theorem dX11_spelled_17 : decode cX11_spelled 17 = .ok (.lor, 1) := by decide +kernel
theorem dX11_spelled_18 : decode cX11_spelled 18 = .ok (.iload_n 2, 1) := by decide +kernel
theorem dX11_spelled_19 : decode cX11_spelled 19 = .ok (.bipush 96, 2) := by decide +kernel
theorem dX11_spelled_21 : decode cX11_spelled 21 = .ok (.isub, 1) := by decide +kernel
theorem dX11_spelled_22 : decode cX11_spelled 22 = .ok (.i2l, 1) := by decide +kernel
theorem dX11_spelled_23 : decode cX11_spelled 23 = .ok (.lor, 1) := by decide +kernel
theorem dX11_spelled_24 : decode cX11_spelled 24 = .ok (.lstore 8, 2) := by decide +kernel
theorem dX11_spelled_26 : decode cX11_spelled 26 = .ok (.iload_n 3, 1) := by decide +kernel
theorem dX11_spelled_27 : decode cX11_spelled 27 = .ok (.ifCond .eq 15, 3) := by decide +kernel
theorem dX11_spelled_30 : decode cX11_spelled 30 = .ok (.lload 8, 2) := by decide +kernel
theorem dX11_spelled_32 : decode cX11_spelled 32 = .ok (.iconst 5, 1) := by decide +kernel
theorem dX11_spelled_33 : decode cX11_spelled 33 = .ok (.lshl, 1) := by decide +kernel
theorem dX11_spelled_34 : decode cX11_spelled 34 = .ok (.iload_n 3, 1) := by decide +kernel
theorem dX11_spelled_35 : decode cX11_spelled 35 = .ok (.bipush 96, 2) := by decide +kernel
theorem dX11_spelled_37 : decode cX11_spelled 37 = .ok (.isub, 1) := by decide +kernel
theorem dX11_spelled_38 : decode cX11_spelled 38 = .ok (.i2l, 1) := by decide +kernel
theorem dX11_spelled_39 : decode cX11_spelled 39 = .ok (.lor, 1) := by decide +kernel
theorem dX11_spelled_40 : decode cX11_spelled 40 = .ok (.lstore 8, 2) := by decide +kernel
theorem dX11_spelled_42 : decode cX11_spelled 42 = .ok (.iload 4, 2) := by decide +kernel
theorem dX11_spelled_44 : decode cX11_spelled 44 = .ok (.ifCond .eq 16, 3) := by decide +kernel
theorem dX11_spelled_47 : decode cX11_spelled 47 = .ok (.lload 8, 2) := by decide +kernel
theorem dX11_spelled_49 : decode cX11_spelled 49 = .ok (.iconst 5, 1) := by decide +kernel
theorem dX11_spelled_50 : decode cX11_spelled 50 = .ok (.lshl, 1) := by decide +kernel
theorem dX11_spelled_51 : decode cX11_spelled 51 = .ok (.iload 4, 2) := by decide +kernel
theorem dX11_spelled_53 : decode cX11_spelled 53 = .ok (.bipush 96, 2) := by decide +kernel
theorem dX11_spelled_55 : decode cX11_spelled 55 = .ok (.isub, 1) := by decide +kernel
theorem dX11_spelled_56 : decode cX11_spelled 56 = .ok (.i2l, 1) := by decide +kernel
theorem dX11_spelled_57 : decode cX11_spelled 57 = .ok (.lor, 1) := by decide +kernel
theorem dX11_spelled_58 : decode cX11_spelled 58 = .ok (.lstore 8, 2) := by decide +kernel
theorem dX11_spelled_60 : decode cX11_spelled 60 = .ok (.iload 5, 2) := by decide +kernel
theorem dX11_spelled_62 : decode cX11_spelled 62 = .ok (.ifCond .eq 16, 3) := by decide +kernel
theorem dX11_spelled_65 : decode cX11_spelled 65 = .ok (.lload 8, 2) := by decide +kernel
theorem dX11_spelled_67 : decode cX11_spelled 67 = .ok (.iconst 5, 1) := by decide +kernel
theorem dX11_spelled_68 : decode cX11_spelled 68 = .ok (.lshl, 1) := by decide +kernel
theorem dX11_spelled_69 : decode cX11_spelled 69 = .ok (.iload 5, 2) := by decide +kernel
theorem dX11_spelled_71 : decode cX11_spelled 71 = .ok (.bipush 96, 2) := by decide +kernel
theorem dX11_spelled_73 : decode cX11_spelled 73 = .ok (.isub, 1) := by decide +kernel
theorem dX11_spelled_74 : decode cX11_spelled 74 = .ok (.i2l, 1) := by decide +kernel
theorem dX11_spelled_75 : decode cX11_spelled 75 = .ok (.lor, 1) := by decide +kernel
theorem dX11_spelled_76 : decode cX11_spelled 76 = .ok (.lstore 8, 2) := by decide +kernel
theorem dX11_spelled_78 : decode cX11_spelled 78 = .ok (.iload 6, 2) := by decide +kernel
theorem dX11_spelled_80 : decode cX11_spelled 80 = .ok (.ifCond .eq 16, 3) := by decide +kernel
theorem dX11_spelled_83 : decode cX11_spelled 83 = .ok (.lload 8, 2) := by decide +kernel
theorem dX11_spelled_85 : decode cX11_spelled 85 = .ok (.iconst 5, 1) := by decide +kernel
theorem dX11_spelled_86 : decode cX11_spelled 86 = .ok (.lshl, 1) := by decide +kernel
theorem dX11_spelled_87 : decode cX11_spelled 87 = .ok (.iload 6, 2) := by decide +kernel
theorem dX11_spelled_89 : decode cX11_spelled 89 = .ok (.bipush 96, 2) := by decide +kernel
theorem dX11_spelled_91 : decode cX11_spelled 91 = .ok (.isub, 1) := by decide +kernel
theorem dX11_spelled_92 : decode cX11_spelled 92 = .ok (.i2l, 1) := by decide +kernel
theorem dX11_spelled_93 : decode cX11_spelled 93 = .ok (.lor, 1) := by decide +kernel
theorem dX11_spelled_94 : decode cX11_spelled 94 = .ok (.lstore 8, 2) := by decide +kernel
theorem dX11_spelled_96 : decode cX11_spelled 96 = .ok (.iload 7, 2) := by decide +kernel
theorem dX11_spelled_98 : decode cX11_spelled 98 = .ok (.ifCond .eq 16, 3) := by decide +kernel
theorem dX11_spelled_101 : decode cX11_spelled 101 = .ok (.lload 8, 2) := by decide +kernel
theorem dX11_spelled_103 : decode cX11_spelled 103 = .ok (.iconst 5, 1) := by decide +kernel
theorem dX11_spelled_104 : decode cX11_spelled 104 = .ok (.lshl, 1) := by decide +kernel
theorem dX11_spelled_105 : decode cX11_spelled 105 = .ok (.iload 7, 2) := by decide +kernel
theorem dX11_spelled_107 : decode cX11_spelled 107 = .ok (.bipush 96, 2) := by decide +kernel
theorem dX11_spelled_109 : decode cX11_spelled 109 = .ok (.isub, 1) := by decide +kernel
theorem dX11_spelled_110 : decode cX11_spelled 110 = .ok (.i2l, 1) := by decide +kernel
theorem dX11_spelled_111 : decode cX11_spelled 111 = .ok (.lor, 1) := by decide +kernel
theorem dX11_spelled_112 : decode cX11_spelled 112 = .ok (.lstore 8, 2) := by decide +kernel
theorem dX11_spelled_114 : decode cX11_spelled 114 = .ok (.lload 8, 2) := by decide +kernel
theorem dX11_spelled_116 : decode cX11_spelled 116 = .ok (.lreturn, 1) := by decide +kernel
theorem bX11_spelled_0 {G : GX} {h : mH} {Q : mO → mH → Prop} {v0 : Int32} {v1 : Int32} {v2 : Int32} {v3 : Int32} {v4 : Int32} {v5 : Int32} {v6 : Int32} {v7 : Int32} (hi : Iv h) (K : (v3 = 0 → Vw G jX11_spelled 42 [none, none, none, none, some (.int v4), some (.int v5), some (.int v6), some (.int v7), some (.long (((((Int32.toInt64 v0) - 96) <<< (Int32.toInt64 10 &&& 63)) ||| (((Int32.toInt64 v1) - 96) <<< (Int32.toInt64 5 &&& 63))) ||| (Int32.toInt64 (v2 - 96)))), none] [] h Q) ∧ (¬ v3 = 0 → Vw G jX11_spelled 42 [none, none, none, none, some (.int v4), some (.int v5), some (.int v6), some (.int v7), some (.long (((((((Int32.toInt64 v0) - 96) <<< (Int32.toInt64 10 &&& 63)) ||| (((Int32.toInt64 v1) - 96) <<< (Int32.toInt64 5 &&& 63))) ||| (Int32.toInt64 (v2 - 96))) <<< (Int32.toInt64 5 &&& 63)) ||| (Int32.toInt64 (v3 - 96)))), none] [] h Q)) : Vw G jX11_spelled 0 [some (.int v0), some (.int v1), some (.int v2), some (.int v3), some (.int v4), some (.int v5), some (.int v6), some (.int v7), none, none] [] h Q :=
  s_iload_n dX11_spelled_0 rfl (s_i2l dX11_spelled_1 (s_ldc2 dX11_spelled_2 w_1563 (s_lsub dX11_spelled_5 (s_bipush 10 dX11_spelled_6 (by decide) (s_lshl dX11_spelled_8 (s_iload_n dX11_spelled_9 rfl (s_i2l dX11_spelled_10 (s_ldc2 dX11_spelled_11 w_1563 (s_lsub dX11_spelled_14 (s_iconst 5 dX11_spelled_15 (by decide) (s_lshl dX11_spelled_16 (s_lor dX11_spelled_17 (s_iload_n dX11_spelled_18 rfl (s_bipush 96 dX11_spelled_19 (by decide) (s_isub dX11_spelled_21 (s_i2l dX11_spelled_22 (s_lor dX11_spelled_23 (s_lstore dX11_spelled_24 (Nat.le_of_ble_eq_true rfl) rfl (s_iload_n dX11_spelled_26 rfl (s_if_eq 42 dX11_spelled_27 rfl (fun q20 => Vw.mask [false, false, false, false, true, true, true, true, true, false] ((K.1 q20))) (fun q20 => s_lload dX11_spelled_30 rfl (s_iconst 5 dX11_spelled_32 (by decide) (s_lshl dX11_spelled_33 (s_iload_n dX11_spelled_34 rfl (s_bipush 96 dX11_spelled_35 (by decide) (s_isub dX11_spelled_37 (s_i2l dX11_spelled_38 (s_lor dX11_spelled_39 (s_lstore dX11_spelled_40 (Nat.le_of_ble_eq_true rfl) rfl (Vw.mask [false, false, false, false, true, true, true, true, true, false] ((K.2 q20))))))))))))))))))))))))))))))))
theorem bX11_spelled_42 {G : GX} {h : mH} {Q : mO → mH → Prop} {v4 : Int32} {v5 : Int32} {v6 : Int32} {v7 : Int32} {v8 : Int64} (hi : Iv h) (K : (v4 = 0 → Vw G jX11_spelled 60 [none, none, none, none, none, some (.int v5), some (.int v6), some (.int v7), some (.long v8), none] [] h Q) ∧ (¬ v4 = 0 → Vw G jX11_spelled 60 [none, none, none, none, none, some (.int v5), some (.int v6), some (.int v7), some (.long ((v8 <<< (Int32.toInt64 5 &&& 63)) ||| (Int32.toInt64 (v4 - 96)))), none] [] h Q)) : Vw G jX11_spelled 42 [none, none, none, none, some (.int v4), some (.int v5), some (.int v6), some (.int v7), some (.long v8), none] [] h Q :=
  s_iload dX11_spelled_42 rfl (s_if_eq 60 dX11_spelled_44 rfl (fun q1 => Vw.mask [false, false, false, false, false, true, true, true, true, false] ((K.1 q1))) (fun q1 => s_lload dX11_spelled_47 rfl (s_iconst 5 dX11_spelled_49 (by decide) (s_lshl dX11_spelled_50 (s_iload dX11_spelled_51 rfl (s_bipush 96 dX11_spelled_53 (by decide) (s_isub dX11_spelled_55 (s_i2l dX11_spelled_56 (s_lor dX11_spelled_57 (s_lstore dX11_spelled_58 (Nat.le_of_ble_eq_true rfl) rfl (Vw.mask [false, false, false, false, false, true, true, true, true, false] ((K.2 q1)))))))))))))
theorem bX11_spelled_60 {G : GX} {h : mH} {Q : mO → mH → Prop} {v5 : Int32} {v6 : Int32} {v7 : Int32} {v8 : Int64} (hi : Iv h) (K : (v5 = 0 → Vw G jX11_spelled 78 [none, none, none, none, none, none, some (.int v6), some (.int v7), some (.long v8), none] [] h Q) ∧ (¬ v5 = 0 → Vw G jX11_spelled 78 [none, none, none, none, none, none, some (.int v6), some (.int v7), some (.long ((v8 <<< (Int32.toInt64 5 &&& 63)) ||| (Int32.toInt64 (v5 - 96)))), none] [] h Q)) : Vw G jX11_spelled 60 [none, none, none, none, none, some (.int v5), some (.int v6), some (.int v7), some (.long v8), none] [] h Q :=
  s_iload dX11_spelled_60 rfl (s_if_eq 78 dX11_spelled_62 rfl (fun q1 => Vw.mask [false, false, false, false, false, false, true, true, true, false] ((K.1 q1))) (fun q1 => s_lload dX11_spelled_65 rfl (s_iconst 5 dX11_spelled_67 (by decide) (s_lshl dX11_spelled_68 (s_iload dX11_spelled_69 rfl (s_bipush 96 dX11_spelled_71 (by decide) (s_isub dX11_spelled_73 (s_i2l dX11_spelled_74 (s_lor dX11_spelled_75 (s_lstore dX11_spelled_76 (Nat.le_of_ble_eq_true rfl) rfl (Vw.mask [false, false, false, false, false, false, true, true, true, false] ((K.2 q1)))))))))))))
theorem bX11_spelled_78 {G : GX} {h : mH} {Q : mO → mH → Prop} {v6 : Int32} {v7 : Int32} {v8 : Int64} (hi : Iv h) (K : (v6 = 0 → Vw G jX11_spelled 96 [none, none, none, none, none, none, none, some (.int v7), some (.long v8), none] [] h Q) ∧ (¬ v6 = 0 → Vw G jX11_spelled 96 [none, none, none, none, none, none, none, some (.int v7), some (.long ((v8 <<< (Int32.toInt64 5 &&& 63)) ||| (Int32.toInt64 (v6 - 96)))), none] [] h Q)) : Vw G jX11_spelled 78 [none, none, none, none, none, none, some (.int v6), some (.int v7), some (.long v8), none] [] h Q :=
  s_iload dX11_spelled_78 rfl (s_if_eq 96 dX11_spelled_80 rfl (fun q1 => Vw.mask [false, false, false, false, false, false, false, true, true, false] ((K.1 q1))) (fun q1 => s_lload dX11_spelled_83 rfl (s_iconst 5 dX11_spelled_85 (by decide) (s_lshl dX11_spelled_86 (s_iload dX11_spelled_87 rfl (s_bipush 96 dX11_spelled_89 (by decide) (s_isub dX11_spelled_91 (s_i2l dX11_spelled_92 (s_lor dX11_spelled_93 (s_lstore dX11_spelled_94 (Nat.le_of_ble_eq_true rfl) rfl (Vw.mask [false, false, false, false, false, false, false, true, true, false] ((K.2 q1)))))))))))))
theorem bX11_spelled_96 {G : GX} {h : mH} {Q : mO → mH → Prop} {v7 : Int32} {v8 : Int64} (hi : Iv h) (K : (v7 = 0 → Q (.inl (some (.long v8))) h) ∧ (¬ v7 = 0 → Q (.inl (some (.long ((v8 <<< (Int32.toInt64 5 &&& 63)) ||| (Int32.toInt64 (v7 - 96)))))) h)) : Vw G jX11_spelled 96 [none, none, none, none, none, none, none, some (.int v7), some (.long v8), none] [] h Q :=
  s_iload dX11_spelled_96 rfl (s_if_eq 114 dX11_spelled_98 rfl (fun q1 => s_lload dX11_spelled_114 rfl (s_lreturn dX11_spelled_116 rfl (K.1 q1))) (fun q1 => s_lload dX11_spelled_101 rfl (s_iconst 5 dX11_spelled_103 (by decide) (s_lshl dX11_spelled_104 (s_iload dX11_spelled_105 rfl (s_bipush 96 dX11_spelled_107 (by decide) (s_isub dX11_spelled_109 (s_i2l dX11_spelled_110 (s_lor dX11_spelled_111 (s_lstore dX11_spelled_112 (Nat.le_of_ble_eq_true rfl) rfl (s_lload dX11_spelled_114 rfl (s_lreturn dX11_spelled_116 rfl (K.2 q1)))))))))))))
theorem eX11_spelled {G : GX} {h : mH} {Q : mO → mH → Prop} {v0 : Int32} {v1 : Int32} {v2 : Int32} {v3 : Int32} {v4 : Int32} {v5 : Int32} {v6 : Int32} {v7 : Int32} (hi : Iv h) (K : (v3 = 0 → Vw G jX11_spelled 42 [none, none, none, none, some (.int v4), some (.int v5), some (.int v6), some (.int v7), some (.long (((((Int32.toInt64 v0) - 96) <<< (Int32.toInt64 10 &&& 63)) ||| (((Int32.toInt64 v1) - 96) <<< (Int32.toInt64 5 &&& 63))) ||| (Int32.toInt64 (v2 - 96)))), none] [] h Q) ∧ (¬ v3 = 0 → Vw G jX11_spelled 42 [none, none, none, none, some (.int v4), some (.int v5), some (.int v6), some (.int v7), some (.long (((((((Int32.toInt64 v0) - 96) <<< (Int32.toInt64 10 &&& 63)) ||| (((Int32.toInt64 v1) - 96) <<< (Int32.toInt64 5 &&& 63))) ||| (Int32.toInt64 (v2 - 96))) <<< (Int32.toInt64 5 &&& 63)) ||| (Int32.toInt64 (v3 - 96)))), none] [] h Q)) : WM G jX11_spelled [.int v0, .int v1, .int v2, .int v3, .int v4, .int v5, .int v6, .int v7] h Q :=
  WM.body (ls := [some (.int v0), some (.int v1), some (.int v2), some (.int v3), some (.int v4), some (.int v5), some (.int v6), some (.int v7), none, none]) rfl (by decide +kernel) rfl (Nat.le_of_ble_eq_true rfl) rfl ((bX11_spelled_0 hi  K))
theorem dX11_letters_0 : decode cX11_letters 0 = .ok (.iload_n 0, 1) := by decide +kernel
theorem dX11_letters_1 : decode cX11_letters 1 = .ok (.tableswitch 388 0 17 #[87, 103, 119, 135, 155, 171, 190, 206, 222, 239, 255, 271, 289, 305, 321, 336, 354, 371], 87) := by decide +kernel
theorem dX11_letters_88 : decode cX11_letters 88 = .ok (.bipush 101, 2) := by decide +kernel
theorem dX11_letters_90 : decode cX11_letters 90 = .ok (.bipush 118, 2) := by decide +kernel
theorem dX11_letters_92 : decode cX11_letters 92 = .ok (.bipush 101, 2) := by decide +kernel
theorem dX11_letters_94 : decode cX11_letters 94 = .ok (.bipush 110, 2) := by decide +kernel
theorem dX11_letters_96 : decode cX11_letters 96 = .ok (.iconst 0, 1) := by decide +kernel
theorem dX11_letters_97 : decode cX11_letters 97 = .ok (.iconst 0, 1) := by decide +kernel
theorem dX11_letters_98 : decode cX11_letters 98 = .ok (.iconst 0, 1) := by decide +kernel
theorem dX11_letters_99 : decode cX11_letters 99 = .ok (.iconst 0, 1) := by decide +kernel
theorem dX11_letters_100 : decode cX11_letters 100 = .ok (.invokestatic 161, 3) := by decide +kernel
theorem dX11_letters_103 : decode cX11_letters 103 = .ok (.lreturn, 1) := by decide +kernel
theorem dX11_letters_104 : decode cX11_letters 104 = .ok (.bipush 98, 2) := by decide +kernel
theorem dX11_letters_106 : decode cX11_letters 106 = .ok (.bipush 111, 2) := by decide +kernel
theorem dX11_letters_108 : decode cX11_letters 108 = .ok (.bipush 119, 2) := by decide +kernel
theorem dX11_letters_110 : decode cX11_letters 110 = .ok (.bipush 108, 2) := by decide +kernel
theorem dX11_letters_112 : decode cX11_letters 112 = .ok (.iconst 0, 1) := by decide +kernel
theorem dX11_letters_113 : decode cX11_letters 113 = .ok (.iconst 0, 1) := by decide +kernel
theorem dX11_letters_114 : decode cX11_letters 114 = .ok (.iconst 0, 1) := by decide +kernel
theorem dX11_letters_115 : decode cX11_letters 115 = .ok (.iconst 0, 1) := by decide +kernel
theorem dX11_letters_116 : decode cX11_letters 116 = .ok (.invokestatic 161, 3) := by decide +kernel
theorem dX11_letters_119 : decode cX11_letters 119 = .ok (.lreturn, 1) := by decide +kernel
theorem dX11_letters_120 : decode cX11_letters 120 = .ok (.bipush 107, 2) := by decide +kernel
theorem dX11_letters_122 : decode cX11_letters 122 = .ok (.bipush 105, 2) := by decide +kernel
theorem dX11_letters_124 : decode cX11_letters 124 = .ok (.bipush 99, 2) := by decide +kernel
theorem dX11_letters_126 : decode cX11_letters 126 = .ok (.bipush 107, 2) := by decide +kernel
theorem dX11_letters_128 : decode cX11_letters 128 = .ok (.iconst 0, 1) := by decide +kernel
theorem dX11_letters_129 : decode cX11_letters 129 = .ok (.iconst 0, 1) := by decide +kernel
theorem dX11_letters_130 : decode cX11_letters 130 = .ok (.iconst 0, 1) := by decide +kernel
theorem dX11_letters_131 : decode cX11_letters 131 = .ok (.iconst 0, 1) := by decide +kernel
theorem dX11_letters_132 : decode cX11_letters 132 = .ok (.invokestatic 161, 3) := by decide +kernel
theorem dX11_letters_135 : decode cX11_letters 135 = .ok (.lreturn, 1) := by decide +kernel
theorem dX11_letters_136 : decode cX11_letters 136 = .ok (.bipush 112, 2) := by decide +kernel
theorem dX11_letters_138 : decode cX11_letters 138 = .ok (.bipush 101, 2) := by decide +kernel
theorem dX11_letters_140 : decode cX11_letters 140 = .ok (.bipush 110, 2) := by decide +kernel
theorem dX11_letters_142 : decode cX11_letters 142 = .ok (.bipush 100, 2) := by decide +kernel
theorem dX11_letters_144 : decode cX11_letters 144 = .ok (.bipush 117, 2) := by decide +kernel
theorem dX11_letters_146 : decode cX11_letters 146 = .ok (.bipush 108, 2) := by decide +kernel
theorem dX11_letters_148 : decode cX11_letters 148 = .ok (.bipush 117, 2) := by decide +kernel
theorem dX11_letters_150 : decode cX11_letters 150 = .ok (.bipush 109, 2) := by decide +kernel
theorem dX11_letters_152 : decode cX11_letters 152 = .ok (.invokestatic 161, 3) := by decide +kernel
theorem dX11_letters_155 : decode cX11_letters 155 = .ok (.lreturn, 1) := by decide +kernel
theorem dX11_letters_156 : decode cX11_letters 156 = .ok (.bipush 99, 2) := by decide +kernel
theorem dX11_letters_158 : decode cX11_letters 158 = .ok (.bipush 97, 2) := by decide +kernel
theorem dX11_letters_160 : decode cX11_letters 160 = .ok (.bipush 114, 2) := by decide +kernel
theorem dX11_letters_162 : decode cX11_letters 162 = .ok (.bipush 116, 2) := by decide +kernel
theorem dX11_letters_164 : decode cX11_letters 164 = .ok (.iconst 0, 1) := by decide +kernel
theorem dX11_letters_165 : decode cX11_letters 165 = .ok (.iconst 0, 1) := by decide +kernel
theorem dX11_letters_166 : decode cX11_letters 166 = .ok (.iconst 0, 1) := by decide +kernel
theorem dX11_letters_167 : decode cX11_letters 167 = .ok (.iconst 0, 1) := by decide +kernel
theorem dX11_letters_168 : decode cX11_letters 168 = .ok (.invokestatic 161, 3) := by decide +kernel
theorem dX11_letters_171 : decode cX11_letters 171 = .ok (.lreturn, 1) := by decide +kernel
theorem dX11_letters_172 : decode cX11_letters 172 = .ok (.bipush 112, 2) := by decide +kernel
theorem dX11_letters_174 : decode cX11_letters 174 = .ok (.bipush 101, 2) := by decide +kernel
theorem dX11_letters_176 : decode cX11_letters 176 = .ok (.bipush 110, 2) := by decide +kernel
theorem dX11_letters_178 : decode cX11_letters 178 = .ok (.bipush 110, 2) := by decide +kernel
theorem dX11_letters_180 : decode cX11_letters 180 = .ok (.bipush 105, 2) := by decide +kernel
theorem dX11_letters_182 : decode cX11_letters 182 = .ok (.bipush 101, 2) := by decide +kernel
theorem dX11_letters_184 : decode cX11_letters 184 = .ok (.bipush 115, 2) := by decide +kernel
theorem dX11_letters_186 : decode cX11_letters 186 = .ok (.iconst 0, 1) := by decide +kernel
theorem dX11_letters_187 : decode cX11_letters 187 = .ok (.invokestatic 161, 3) := by decide +kernel
theorem dX11_letters_190 : decode cX11_letters 190 = .ok (.lreturn, 1) := by decide +kernel
theorem dX11_letters_191 : decode cX11_letters 191 = .ok (.bipush 100, 2) := by decide +kernel
theorem dX11_letters_193 : decode cX11_letters 193 = .ok (.bipush 114, 2) := by decide +kernel
theorem dX11_letters_195 : decode cX11_letters 195 = .ok (.bipush 97, 2) := by decide +kernel
theorem dX11_letters_197 : decode cX11_letters 197 = .ok (.bipush 119, 2) := by decide +kernel
theorem dX11_letters_199 : decode cX11_letters 199 = .ok (.iconst 0, 1) := by decide +kernel
theorem dX11_letters_200 : decode cX11_letters 200 = .ok (.iconst 0, 1) := by decide +kernel
theorem dX11_letters_201 : decode cX11_letters 201 = .ok (.iconst 0, 1) := by decide +kernel
theorem dX11_letters_202 : decode cX11_letters 202 = .ok (.iconst 0, 1) := by decide +kernel
theorem dX11_letters_203 : decode cX11_letters 203 = .ok (.invokestatic 161, 3) := by decide +kernel
theorem dX11_letters_206 : decode cX11_letters 206 = .ok (.lreturn, 1) := by decide +kernel
theorem dX11_letters_207 : decode cX11_letters 207 = .ok (.bipush 108, 2) := by decide +kernel
theorem dX11_letters_209 : decode cX11_letters 209 = .ok (.bipush 105, 2) := by decide +kernel
theorem dX11_letters_211 : decode cX11_letters 211 = .ok (.bipush 102, 2) := by decide +kernel
theorem dX11_letters_213 : decode cX11_letters 213 = .ok (.bipush 116, 2) := by decide +kernel
theorem dX11_letters_215 : decode cX11_letters 215 = .ok (.iconst 0, 1) := by decide +kernel
theorem dX11_letters_216 : decode cX11_letters 216 = .ok (.iconst 0, 1) := by decide +kernel
theorem dX11_letters_217 : decode cX11_letters 217 = .ok (.iconst 0, 1) := by decide +kernel
theorem dX11_letters_218 : decode cX11_letters 218 = .ok (.iconst 0, 1) := by decide +kernel
theorem dX11_letters_219 : decode cX11_letters 219 = .ok (.invokestatic 161, 3) := by decide +kernel
theorem dX11_letters_222 : decode cX11_letters 222 = .ok (.lreturn, 1) := by decide +kernel
theorem dX11_letters_223 : decode cX11_letters 223 = .ok (.bipush 112, 2) := by decide +kernel
theorem dX11_letters_225 : decode cX11_letters 225 = .ok (.bipush 101, 2) := by decide +kernel
theorem dX11_letters_227 : decode cX11_letters 227 = .ok (.bipush 110, 2) := by decide +kernel
theorem dX11_letters_229 : decode cX11_letters 229 = .ok (.bipush 110, 2) := by decide +kernel
theorem dX11_letters_231 : decode cX11_letters 231 = .ok (.bipush 121, 2) := by decide +kernel
theorem dX11_letters_233 : decode cX11_letters 233 = .ok (.iconst 0, 1) := by decide +kernel
theorem dX11_letters_234 : decode cX11_letters 234 = .ok (.iconst 0, 1) := by decide +kernel
theorem dX11_letters_235 : decode cX11_letters 235 = .ok (.iconst 0, 1) := by decide +kernel
theorem dX11_letters_236 : decode cX11_letters 236 = .ok (.invokestatic 161, 3) := by decide +kernel
theorem dX11_letters_239 : decode cX11_letters 239 = .ok (.lreturn, 1) := by decide +kernel
theorem dX11_letters_240 : decode cX11_letters 240 = .ok (.bipush 115, 2) := by decide +kernel
theorem dX11_letters_242 : decode cX11_letters 242 = .ok (.bipush 105, 2) := by decide +kernel
theorem dX11_letters_244 : decode cX11_letters 244 = .ok (.bipush 122, 2) := by decide +kernel
theorem dX11_letters_246 : decode cX11_letters 246 = .ok (.bipush 101, 2) := by decide +kernel
theorem dX11_letters_248 : decode cX11_letters 248 = .ok (.iconst 0, 1) := by decide +kernel
theorem dX11_letters_249 : decode cX11_letters 249 = .ok (.iconst 0, 1) := by decide +kernel
theorem dX11_letters_250 : decode cX11_letters 250 = .ok (.iconst 0, 1) := by decide +kernel
theorem dX11_letters_251 : decode cX11_letters 251 = .ok (.iconst 0, 1) := by decide +kernel
theorem dX11_letters_252 : decode cX11_letters 252 = .ok (.invokestatic 161, 3) := by decide +kernel
theorem dX11_letters_255 : decode cX11_letters 255 = .ok (.lreturn, 1) := by decide +kernel
theorem dX11_letters_256 : decode cX11_letters 256 = .ok (.bipush 116, 2) := by decide +kernel
theorem dX11_letters_258 : decode cX11_letters 258 = .ok (.bipush 117, 2) := by decide +kernel
theorem dX11_letters_260 : decode cX11_letters 260 = .ok (.bipush 114, 2) := by decide +kernel
theorem dX11_letters_262 : decode cX11_letters 262 = .ok (.bipush 110, 2) := by decide +kernel
theorem dX11_letters_264 : decode cX11_letters 264 = .ok (.iconst 0, 1) := by decide +kernel
theorem dX11_letters_265 : decode cX11_letters 265 = .ok (.iconst 0, 1) := by decide +kernel
theorem dX11_letters_266 : decode cX11_letters 266 = .ok (.iconst 0, 1) := by decide +kernel
theorem dX11_letters_267 : decode cX11_letters 267 = .ok (.iconst 0, 1) := by decide +kernel
theorem dX11_letters_268 : decode cX11_letters 268 = .ok (.invokestatic 161, 3) := by decide +kernel
theorem dX11_letters_271 : decode cX11_letters 271 = .ok (.lreturn, 1) := by decide +kernel
theorem dX11_letters_272 : decode cX11_letters 272 = .ok (.bipush 114, 2) := by decide +kernel
theorem dX11_letters_274 : decode cX11_letters 274 = .ok (.bipush 101, 2) := by decide +kernel
theorem dX11_letters_276 : decode cX11_letters 276 = .ok (.bipush 112, 2) := by decide +kernel
theorem dX11_letters_278 : decode cX11_letters 278 = .ok (.bipush 101, 2) := by decide +kernel
theorem dX11_letters_280 : decode cX11_letters 280 = .ok (.bipush 97, 2) := by decide +kernel
theorem dX11_letters_282 : decode cX11_letters 282 = .ok (.bipush 116, 2) := by decide +kernel
theorem dX11_letters_284 : decode cX11_letters 284 = .ok (.iconst 0, 1) := by decide +kernel
theorem dX11_letters_285 : decode cX11_letters 285 = .ok (.iconst 0, 1) := by decide +kernel
theorem dX11_letters_286 : decode cX11_letters 286 = .ok (.invokestatic 161, 3) := by decide +kernel
theorem dX11_letters_289 : decode cX11_letters 289 = .ok (.lreturn, 1) := by decide +kernel
theorem dX11_letters_290 : decode cX11_letters 290 = .ok (.bipush 119, 2) := by decide +kernel
theorem dX11_letters_292 : decode cX11_letters 292 = .ok (.bipush 104, 2) := by decide +kernel
theorem dX11_letters_294 : decode cX11_letters 294 = .ok (.bipush 101, 2) := by decide +kernel
theorem dX11_letters_296 : decode cX11_letters 296 = .ok (.bipush 110, 2) := by decide +kernel
theorem dX11_letters_298 : decode cX11_letters 298 = .ok (.iconst 0, 1) := by decide +kernel
theorem dX11_letters_299 : decode cX11_letters 299 = .ok (.iconst 0, 1) := by decide +kernel
theorem dX11_letters_300 : decode cX11_letters 300 = .ok (.iconst 0, 1) := by decide +kernel
theorem dX11_letters_301 : decode cX11_letters 301 = .ok (.iconst 0, 1) := by decide +kernel
theorem dX11_letters_302 : decode cX11_letters 302 = .ok (.invokestatic 161, 3) := by decide +kernel
theorem dX11_letters_305 : decode cX11_letters 305 = .ok (.lreturn, 1) := by decide +kernel
theorem dX11_letters_306 : decode cX11_letters 306 = .ok (.bipush 101, 2) := by decide +kernel
theorem dX11_letters_308 : decode cX11_letters 308 = .ok (.bipush 108, 2) := by decide +kernel
theorem dX11_letters_310 : decode cX11_letters 310 = .ok (.bipush 115, 2) := by decide +kernel
theorem dX11_letters_312 : decode cX11_letters 312 = .ok (.bipush 101, 2) := by decide +kernel
theorem dX11_letters_314 : decode cX11_letters 314 = .ok (.iconst 0, 1) := by decide +kernel
theorem dX11_letters_315 : decode cX11_letters 315 = .ok (.iconst 0, 1) := by decide +kernel
theorem dX11_letters_316 : decode cX11_letters 316 = .ok (.iconst 0, 1) := by decide +kernel
theorem dX11_letters_317 : decode cX11_letters 317 = .ok (.iconst 0, 1) := by decide +kernel
theorem dX11_letters_318 : decode cX11_letters 318 = .ok (.invokestatic 161, 3) := by decide +kernel
theorem dX11_letters_321 : decode cX11_letters 321 = .ok (.lreturn, 1) := by decide +kernel
theorem dX11_letters_322 : decode cX11_letters 322 = .ok (.bipush 110, 2) := by decide +kernel
theorem dX11_letters_324 : decode cX11_letters 324 = .ok (.bipush 111, 2) := by decide +kernel
theorem dX11_letters_326 : decode cX11_letters 326 = .ok (.bipush 116, 2) := by decide +kernel
theorem dX11_letters_328 : decode cX11_letters 328 = .ok (.iconst 0, 1) := by decide +kernel
theorem dX11_letters_329 : decode cX11_letters 329 = .ok (.iconst 0, 1) := by decide +kernel
theorem dX11_letters_330 : decode cX11_letters 330 = .ok (.iconst 0, 1) := by decide +kernel
theorem dX11_letters_331 : decode cX11_letters 331 = .ok (.iconst 0, 1) := by decide +kernel
theorem dX11_letters_332 : decode cX11_letters 332 = .ok (.iconst 0, 1) := by decide +kernel
theorem dX11_letters_333 : decode cX11_letters 333 = .ok (.invokestatic 161, 3) := by decide +kernel
theorem dX11_letters_336 : decode cX11_letters 336 = .ok (.lreturn, 1) := by decide +kernel
theorem dX11_letters_337 : decode cX11_letters 337 = .ok (.bipush 109, 2) := by decide +kernel
theorem dX11_letters_339 : decode cX11_letters 339 = .ok (.bipush 97, 2) := by decide +kernel
theorem dX11_letters_341 : decode cX11_letters 341 = .ok (.bipush 114, 2) := by decide +kernel
theorem dX11_letters_343 : decode cX11_letters 343 = .ok (.bipush 107, 2) := by decide +kernel
theorem dX11_letters_345 : decode cX11_letters 345 = .ok (.bipush 101, 2) := by decide +kernel
theorem dX11_letters_347 : decode cX11_letters 347 = .ok (.bipush 100, 2) := by decide +kernel
theorem dX11_letters_349 : decode cX11_letters 349 = .ok (.iconst 0, 1) := by decide +kernel
theorem dX11_letters_350 : decode cX11_letters 350 = .ok (.iconst 0, 1) := by decide +kernel
theorem dX11_letters_351 : decode cX11_letters 351 = .ok (.invokestatic 161, 3) := by decide +kernel
theorem dX11_letters_354 : decode cX11_letters 354 = .ok (.lreturn, 1) := by decide +kernel
theorem dX11_letters_355 : decode cX11_letters 355 = .ok (.bipush 114, 2) := by decide +kernel
theorem dX11_letters_357 : decode cX11_letters 357 = .ok (.bipush 105, 2) := by decide +kernel
theorem dX11_letters_359 : decode cX11_letters 359 = .ok (.bipush 103, 2) := by decide +kernel
theorem dX11_letters_361 : decode cX11_letters 361 = .ok (.bipush 104, 2) := by decide +kernel
theorem dX11_letters_363 : decode cX11_letters 363 = .ok (.bipush 116, 2) := by decide +kernel
theorem dX11_letters_365 : decode cX11_letters 365 = .ok (.iconst 0, 1) := by decide +kernel
theorem dX11_letters_366 : decode cX11_letters 366 = .ok (.iconst 0, 1) := by decide +kernel
theorem dX11_letters_367 : decode cX11_letters 367 = .ok (.iconst 0, 1) := by decide +kernel
theorem dX11_letters_368 : decode cX11_letters 368 = .ok (.invokestatic 161, 3) := by decide +kernel
theorem dX11_letters_371 : decode cX11_letters 371 = .ok (.lreturn, 1) := by decide +kernel
theorem dX11_letters_372 : decode cX11_letters 372 = .ok (.bipush 97, 2) := by decide +kernel
theorem dX11_letters_374 : decode cX11_letters 374 = .ok (.bipush 98, 2) := by decide +kernel
theorem dX11_letters_376 : decode cX11_letters 376 = .ok (.bipush 111, 2) := by decide +kernel
theorem dX11_letters_378 : decode cX11_letters 378 = .ok (.bipush 118, 2) := by decide +kernel
theorem dX11_letters_380 : decode cX11_letters 380 = .ok (.bipush 101, 2) := by decide +kernel
theorem dX11_letters_382 : decode cX11_letters 382 = .ok (.iconst 0, 1) := by decide +kernel
theorem dX11_letters_383 : decode cX11_letters 383 = .ok (.iconst 0, 1) := by decide +kernel
theorem dX11_letters_384 : decode cX11_letters 384 = .ok (.iconst 0, 1) := by decide +kernel
theorem dX11_letters_385 : decode cX11_letters 385 = .ok (.invokestatic 161, 3) := by decide +kernel
theorem dX11_letters_388 : decode cX11_letters 388 = .ok (.lreturn, 1) := by decide +kernel
theorem dX11_letters_389 : decode cX11_letters 389 = .ok (.bipush 108, 2) := by decide +kernel
theorem dX11_letters_391 : decode cX11_letters 391 = .ok (.bipush 111, 2) := by decide +kernel
theorem dX11_letters_393 : decode cX11_letters 393 = .ok (.bipush 117, 2) := by decide +kernel
theorem dX11_letters_395 : decode cX11_letters 395 = .ok (.bipush 100, 2) := by decide +kernel
theorem dX11_letters_397 : decode cX11_letters 397 = .ok (.iconst 0, 1) := by decide +kernel
theorem dX11_letters_398 : decode cX11_letters 398 = .ok (.iconst 0, 1) := by decide +kernel
theorem dX11_letters_399 : decode cX11_letters 399 = .ok (.iconst 0, 1) := by decide +kernel
theorem dX11_letters_400 : decode cX11_letters 400 = .ok (.iconst 0, 1) := by decide +kernel
theorem dX11_letters_401 : decode cX11_letters 401 = .ok (.invokestatic 161, 3) := by decide +kernel
theorem dX11_letters_404 : decode cX11_letters 404 = .ok (.lreturn, 1) := by decide +kernel
theorem bX11_letters_0 {G : GX} {h : mH} {Q : mO → mH → Prop} {v0 : Int32} (hi : Iv h) (K : (v0 = 0 → WM G jX11_spelled [.int 101, .int 118, .int 101, .int 110, .int 0, .int 0, .int 0, .int 0] h (Aft G jX11_letters 100 [none] [] Q)) ∧ (v0 = 1 → WM G jX11_spelled [.int 98, .int 111, .int 119, .int 108, .int 0, .int 0, .int 0, .int 0] h (Aft G jX11_letters 116 [none] [] Q)) ∧ (v0 = 2 → WM G jX11_spelled [.int 107, .int 105, .int 99, .int 107, .int 0, .int 0, .int 0, .int 0] h (Aft G jX11_letters 132 [none] [] Q)) ∧ (v0 = 3 → WM G jX11_spelled [.int 112, .int 101, .int 110, .int 100, .int 117, .int 108, .int 117, .int 109] h (Aft G jX11_letters 152 [none] [] Q)) ∧ (v0 = 4 → WM G jX11_spelled [.int 99, .int 97, .int 114, .int 116, .int 0, .int 0, .int 0, .int 0] h (Aft G jX11_letters 168 [none] [] Q)) ∧ (v0 = 5 → WM G jX11_spelled [.int 112, .int 101, .int 110, .int 110, .int 105, .int 101, .int 115, .int 0] h (Aft G jX11_letters 187 [none] [] Q)) ∧ (v0 = 6 → WM G jX11_spelled [.int 100, .int 114, .int 97, .int 119, .int 0, .int 0, .int 0, .int 0] h (Aft G jX11_letters 203 [none] [] Q)) ∧ (v0 = 7 → WM G jX11_spelled [.int 108, .int 105, .int 102, .int 116, .int 0, .int 0, .int 0, .int 0] h (Aft G jX11_letters 219 [none] [] Q)) ∧ (v0 = 8 → WM G jX11_spelled [.int 112, .int 101, .int 110, .int 110, .int 121, .int 0, .int 0, .int 0] h (Aft G jX11_letters 236 [none] [] Q)) ∧ (v0 = 9 → WM G jX11_spelled [.int 115, .int 105, .int 122, .int 101, .int 0, .int 0, .int 0, .int 0] h (Aft G jX11_letters 252 [none] [] Q)) ∧ (v0 = 10 → WM G jX11_spelled [.int 116, .int 117, .int 114, .int 110, .int 0, .int 0, .int 0, .int 0] h (Aft G jX11_letters 268 [none] [] Q)) ∧ (v0 = 11 → WM G jX11_spelled [.int 114, .int 101, .int 112, .int 101, .int 97, .int 116, .int 0, .int 0] h (Aft G jX11_letters 286 [none] [] Q)) ∧ (v0 = 12 → WM G jX11_spelled [.int 119, .int 104, .int 101, .int 110, .int 0, .int 0, .int 0, .int 0] h (Aft G jX11_letters 302 [none] [] Q)) ∧ (v0 = 13 → WM G jX11_spelled [.int 101, .int 108, .int 115, .int 101, .int 0, .int 0, .int 0, .int 0] h (Aft G jX11_letters 318 [none] [] Q)) ∧ (v0 = 14 → WM G jX11_spelled [.int 110, .int 111, .int 116, .int 0, .int 0, .int 0, .int 0, .int 0] h (Aft G jX11_letters 333 [none] [] Q)) ∧ (v0 = 15 → WM G jX11_spelled [.int 109, .int 97, .int 114, .int 107, .int 101, .int 100, .int 0, .int 0] h (Aft G jX11_letters 351 [none] [] Q)) ∧ (v0 = 16 → WM G jX11_spelled [.int 114, .int 105, .int 103, .int 104, .int 116, .int 0, .int 0, .int 0] h (Aft G jX11_letters 368 [none] [] Q)) ∧ (v0 = 17 → WM G jX11_spelled [.int 97, .int 98, .int 111, .int 118, .int 101, .int 0, .int 0, .int 0] h (Aft G jX11_letters 385 [none] [] Q)) ∧ (¬ v0 = 0 → ¬ v0 = 1 → ¬ v0 = 2 → ¬ v0 = 3 → ¬ v0 = 4 → ¬ v0 = 5 → ¬ v0 = 6 → ¬ v0 = 7 → ¬ v0 = 8 → ¬ v0 = 9 → ¬ v0 = 10 → ¬ v0 = 11 → ¬ v0 = 12 → ¬ v0 = 13 → ¬ v0 = 14 → ¬ v0 = 15 → ¬ v0 = 16 → ¬ v0 = 17 → WM G jX11_spelled [.int 108, .int 111, .int 117, .int 100, .int 0, .int 0, .int 0, .int 0] h (Aft G jX11_letters 401 [none] [] Q))) : Vw G jX11_letters 0 [some (.int v0)] [] h Q :=
  s_iload_n dX11_letters_0 rfl (Decidable.byCases (fun e1_0 => s_tableIn 88 dX11_letters_1 (by rw [e1_0] <;> decide) (by rw [e1_0] <;> decide) (by rw [e1_0] <;> rfl) rfl (s_bipush 101 dX11_letters_88 (by decide) (s_bipush 118 dX11_letters_90 (by decide) (s_bipush 101 dX11_letters_92 (by decide) (s_bipush 110 dX11_letters_94 (by decide) (s_iconst 0 dX11_letters_96 (by decide) (s_iconst 0 dX11_letters_97 (by decide) (s_iconst 0 dX11_letters_98 (by decide) (s_iconst 0 dX11_letters_99 (by decide) (Vw.mask [false] (s_callS (As := [.int 101, .int 118, .int 101, .int 110, .int 0, .int 0, .int 0, .int 0]) dX11_letters_100 rfl lsX11_161 ⟨Nat.le_of_ble_eq_true rfl, Nat.le_of_ble_eq_true rfl⟩ rfl (Nat.le_of_ble_eq_true rfl) ((K.1 e1_0))))))))))))) (fun e1_0 => Decidable.byCases (fun e1_1 => s_tableIn 104 dX11_letters_1 (by rw [e1_1] <;> decide) (by rw [e1_1] <;> decide) (by rw [e1_1] <;> rfl) rfl (s_bipush 98 dX11_letters_104 (by decide) (s_bipush 111 dX11_letters_106 (by decide) (s_bipush 119 dX11_letters_108 (by decide) (s_bipush 108 dX11_letters_110 (by decide) (s_iconst 0 dX11_letters_112 (by decide) (s_iconst 0 dX11_letters_113 (by decide) (s_iconst 0 dX11_letters_114 (by decide) (s_iconst 0 dX11_letters_115 (by decide) (Vw.mask [false] (s_callS (As := [.int 98, .int 111, .int 119, .int 108, .int 0, .int 0, .int 0, .int 0]) dX11_letters_116 rfl lsX11_161 ⟨Nat.le_of_ble_eq_true rfl, Nat.le_of_ble_eq_true rfl⟩ rfl (Nat.le_of_ble_eq_true rfl) ((K.2.1 e1_1))))))))))))) (fun e1_1 => Decidable.byCases (fun e1_2 => s_tableIn 120 dX11_letters_1 (by rw [e1_2] <;> decide) (by rw [e1_2] <;> decide) (by rw [e1_2] <;> rfl) rfl (s_bipush 107 dX11_letters_120 (by decide) (s_bipush 105 dX11_letters_122 (by decide) (s_bipush 99 dX11_letters_124 (by decide) (s_bipush 107 dX11_letters_126 (by decide) (s_iconst 0 dX11_letters_128 (by decide) (s_iconst 0 dX11_letters_129 (by decide) (s_iconst 0 dX11_letters_130 (by decide) (s_iconst 0 dX11_letters_131 (by decide) (Vw.mask [false] (s_callS (As := [.int 107, .int 105, .int 99, .int 107, .int 0, .int 0, .int 0, .int 0]) dX11_letters_132 rfl lsX11_161 ⟨Nat.le_of_ble_eq_true rfl, Nat.le_of_ble_eq_true rfl⟩ rfl (Nat.le_of_ble_eq_true rfl) ((K.2.2.1 e1_2))))))))))))) (fun e1_2 => Decidable.byCases (fun e1_3 => s_tableIn 136 dX11_letters_1 (by rw [e1_3] <;> decide) (by rw [e1_3] <;> decide) (by rw [e1_3] <;> rfl) rfl (s_bipush 112 dX11_letters_136 (by decide) (s_bipush 101 dX11_letters_138 (by decide) (s_bipush 110 dX11_letters_140 (by decide) (s_bipush 100 dX11_letters_142 (by decide) (s_bipush 117 dX11_letters_144 (by decide) (s_bipush 108 dX11_letters_146 (by decide) (s_bipush 117 dX11_letters_148 (by decide) (s_bipush 109 dX11_letters_150 (by decide) (Vw.mask [false] (s_callS (As := [.int 112, .int 101, .int 110, .int 100, .int 117, .int 108, .int 117, .int 109]) dX11_letters_152 rfl lsX11_161 ⟨Nat.le_of_ble_eq_true rfl, Nat.le_of_ble_eq_true rfl⟩ rfl (Nat.le_of_ble_eq_true rfl) ((K.2.2.2.1 e1_3))))))))))))) (fun e1_3 => Decidable.byCases (fun e1_4 => s_tableIn 156 dX11_letters_1 (by rw [e1_4] <;> decide) (by rw [e1_4] <;> decide) (by rw [e1_4] <;> rfl) rfl (s_bipush 99 dX11_letters_156 (by decide) (s_bipush 97 dX11_letters_158 (by decide) (s_bipush 114 dX11_letters_160 (by decide) (s_bipush 116 dX11_letters_162 (by decide) (s_iconst 0 dX11_letters_164 (by decide) (s_iconst 0 dX11_letters_165 (by decide) (s_iconst 0 dX11_letters_166 (by decide) (s_iconst 0 dX11_letters_167 (by decide) (Vw.mask [false] (s_callS (As := [.int 99, .int 97, .int 114, .int 116, .int 0, .int 0, .int 0, .int 0]) dX11_letters_168 rfl lsX11_161 ⟨Nat.le_of_ble_eq_true rfl, Nat.le_of_ble_eq_true rfl⟩ rfl (Nat.le_of_ble_eq_true rfl) ((K.2.2.2.2.1 e1_4))))))))))))) (fun e1_4 => Decidable.byCases (fun e1_5 => s_tableIn 172 dX11_letters_1 (by rw [e1_5] <;> decide) (by rw [e1_5] <;> decide) (by rw [e1_5] <;> rfl) rfl (s_bipush 112 dX11_letters_172 (by decide) (s_bipush 101 dX11_letters_174 (by decide) (s_bipush 110 dX11_letters_176 (by decide) (s_bipush 110 dX11_letters_178 (by decide) (s_bipush 105 dX11_letters_180 (by decide) (s_bipush 101 dX11_letters_182 (by decide) (s_bipush 115 dX11_letters_184 (by decide) (s_iconst 0 dX11_letters_186 (by decide) (Vw.mask [false] (s_callS (As := [.int 112, .int 101, .int 110, .int 110, .int 105, .int 101, .int 115, .int 0]) dX11_letters_187 rfl lsX11_161 ⟨Nat.le_of_ble_eq_true rfl, Nat.le_of_ble_eq_true rfl⟩ rfl (Nat.le_of_ble_eq_true rfl) ((K.2.2.2.2.2.1 e1_5))))))))))))) (fun e1_5 => Decidable.byCases (fun e1_6 => s_tableIn 191 dX11_letters_1 (by rw [e1_6] <;> decide) (by rw [e1_6] <;> decide) (by rw [e1_6] <;> rfl) rfl (s_bipush 100 dX11_letters_191 (by decide) (s_bipush 114 dX11_letters_193 (by decide) (s_bipush 97 dX11_letters_195 (by decide) (s_bipush 119 dX11_letters_197 (by decide) (s_iconst 0 dX11_letters_199 (by decide) (s_iconst 0 dX11_letters_200 (by decide) (s_iconst 0 dX11_letters_201 (by decide) (s_iconst 0 dX11_letters_202 (by decide) (Vw.mask [false] (s_callS (As := [.int 100, .int 114, .int 97, .int 119, .int 0, .int 0, .int 0, .int 0]) dX11_letters_203 rfl lsX11_161 ⟨Nat.le_of_ble_eq_true rfl, Nat.le_of_ble_eq_true rfl⟩ rfl (Nat.le_of_ble_eq_true rfl) ((K.2.2.2.2.2.2.1 e1_6))))))))))))) (fun e1_6 => Decidable.byCases (fun e1_7 => s_tableIn 207 dX11_letters_1 (by rw [e1_7] <;> decide) (by rw [e1_7] <;> decide) (by rw [e1_7] <;> rfl) rfl (s_bipush 108 dX11_letters_207 (by decide) (s_bipush 105 dX11_letters_209 (by decide) (s_bipush 102 dX11_letters_211 (by decide) (s_bipush 116 dX11_letters_213 (by decide) (s_iconst 0 dX11_letters_215 (by decide) (s_iconst 0 dX11_letters_216 (by decide) (s_iconst 0 dX11_letters_217 (by decide) (s_iconst 0 dX11_letters_218 (by decide) (Vw.mask [false] (s_callS (As := [.int 108, .int 105, .int 102, .int 116, .int 0, .int 0, .int 0, .int 0]) dX11_letters_219 rfl lsX11_161 ⟨Nat.le_of_ble_eq_true rfl, Nat.le_of_ble_eq_true rfl⟩ rfl (Nat.le_of_ble_eq_true rfl) ((K.2.2.2.2.2.2.2.1 e1_7))))))))))))) (fun e1_7 => Decidable.byCases (fun e1_8 => s_tableIn 223 dX11_letters_1 (by rw [e1_8] <;> decide) (by rw [e1_8] <;> decide) (by rw [e1_8] <;> rfl) rfl (s_bipush 112 dX11_letters_223 (by decide) (s_bipush 101 dX11_letters_225 (by decide) (s_bipush 110 dX11_letters_227 (by decide) (s_bipush 110 dX11_letters_229 (by decide) (s_bipush 121 dX11_letters_231 (by decide) (s_iconst 0 dX11_letters_233 (by decide) (s_iconst 0 dX11_letters_234 (by decide) (s_iconst 0 dX11_letters_235 (by decide) (Vw.mask [false] (s_callS (As := [.int 112, .int 101, .int 110, .int 110, .int 121, .int 0, .int 0, .int 0]) dX11_letters_236 rfl lsX11_161 ⟨Nat.le_of_ble_eq_true rfl, Nat.le_of_ble_eq_true rfl⟩ rfl (Nat.le_of_ble_eq_true rfl) ((K.2.2.2.2.2.2.2.2.1 e1_8))))))))))))) (fun e1_8 => Decidable.byCases (fun e1_9 => s_tableIn 240 dX11_letters_1 (by rw [e1_9] <;> decide) (by rw [e1_9] <;> decide) (by rw [e1_9] <;> rfl) rfl (s_bipush 115 dX11_letters_240 (by decide) (s_bipush 105 dX11_letters_242 (by decide) (s_bipush 122 dX11_letters_244 (by decide) (s_bipush 101 dX11_letters_246 (by decide) (s_iconst 0 dX11_letters_248 (by decide) (s_iconst 0 dX11_letters_249 (by decide) (s_iconst 0 dX11_letters_250 (by decide) (s_iconst 0 dX11_letters_251 (by decide) (Vw.mask [false] (s_callS (As := [.int 115, .int 105, .int 122, .int 101, .int 0, .int 0, .int 0, .int 0]) dX11_letters_252 rfl lsX11_161 ⟨Nat.le_of_ble_eq_true rfl, Nat.le_of_ble_eq_true rfl⟩ rfl (Nat.le_of_ble_eq_true rfl) ((K.2.2.2.2.2.2.2.2.2.1 e1_9))))))))))))) (fun e1_9 => Decidable.byCases (fun e1_10 => s_tableIn 256 dX11_letters_1 (by rw [e1_10] <;> decide) (by rw [e1_10] <;> decide) (by rw [e1_10] <;> rfl) rfl (s_bipush 116 dX11_letters_256 (by decide) (s_bipush 117 dX11_letters_258 (by decide) (s_bipush 114 dX11_letters_260 (by decide) (s_bipush 110 dX11_letters_262 (by decide) (s_iconst 0 dX11_letters_264 (by decide) (s_iconst 0 dX11_letters_265 (by decide) (s_iconst 0 dX11_letters_266 (by decide) (s_iconst 0 dX11_letters_267 (by decide) (Vw.mask [false] (s_callS (As := [.int 116, .int 117, .int 114, .int 110, .int 0, .int 0, .int 0, .int 0]) dX11_letters_268 rfl lsX11_161 ⟨Nat.le_of_ble_eq_true rfl, Nat.le_of_ble_eq_true rfl⟩ rfl (Nat.le_of_ble_eq_true rfl) ((K.2.2.2.2.2.2.2.2.2.2.1 e1_10))))))))))))) (fun e1_10 => Decidable.byCases (fun e1_11 => s_tableIn 272 dX11_letters_1 (by rw [e1_11] <;> decide) (by rw [e1_11] <;> decide) (by rw [e1_11] <;> rfl) rfl (s_bipush 114 dX11_letters_272 (by decide) (s_bipush 101 dX11_letters_274 (by decide) (s_bipush 112 dX11_letters_276 (by decide) (s_bipush 101 dX11_letters_278 (by decide) (s_bipush 97 dX11_letters_280 (by decide) (s_bipush 116 dX11_letters_282 (by decide) (s_iconst 0 dX11_letters_284 (by decide) (s_iconst 0 dX11_letters_285 (by decide) (Vw.mask [false] (s_callS (As := [.int 114, .int 101, .int 112, .int 101, .int 97, .int 116, .int 0, .int 0]) dX11_letters_286 rfl lsX11_161 ⟨Nat.le_of_ble_eq_true rfl, Nat.le_of_ble_eq_true rfl⟩ rfl (Nat.le_of_ble_eq_true rfl) ((K.2.2.2.2.2.2.2.2.2.2.2.1 e1_11))))))))))))) (fun e1_11 => Decidable.byCases (fun e1_12 => s_tableIn 290 dX11_letters_1 (by rw [e1_12] <;> decide) (by rw [e1_12] <;> decide) (by rw [e1_12] <;> rfl) rfl (s_bipush 119 dX11_letters_290 (by decide) (s_bipush 104 dX11_letters_292 (by decide) (s_bipush 101 dX11_letters_294 (by decide) (s_bipush 110 dX11_letters_296 (by decide) (s_iconst 0 dX11_letters_298 (by decide) (s_iconst 0 dX11_letters_299 (by decide) (s_iconst 0 dX11_letters_300 (by decide) (s_iconst 0 dX11_letters_301 (by decide) (Vw.mask [false] (s_callS (As := [.int 119, .int 104, .int 101, .int 110, .int 0, .int 0, .int 0, .int 0]) dX11_letters_302 rfl lsX11_161 ⟨Nat.le_of_ble_eq_true rfl, Nat.le_of_ble_eq_true rfl⟩ rfl (Nat.le_of_ble_eq_true rfl) ((K.2.2.2.2.2.2.2.2.2.2.2.2.1 e1_12))))))))))))) (fun e1_12 => Decidable.byCases (fun e1_13 => s_tableIn 306 dX11_letters_1 (by rw [e1_13] <;> decide) (by rw [e1_13] <;> decide) (by rw [e1_13] <;> rfl) rfl (s_bipush 101 dX11_letters_306 (by decide) (s_bipush 108 dX11_letters_308 (by decide) (s_bipush 115 dX11_letters_310 (by decide) (s_bipush 101 dX11_letters_312 (by decide) (s_iconst 0 dX11_letters_314 (by decide) (s_iconst 0 dX11_letters_315 (by decide) (s_iconst 0 dX11_letters_316 (by decide) (s_iconst 0 dX11_letters_317 (by decide) (Vw.mask [false] (s_callS (As := [.int 101, .int 108, .int 115, .int 101, .int 0, .int 0, .int 0, .int 0]) dX11_letters_318 rfl lsX11_161 ⟨Nat.le_of_ble_eq_true rfl, Nat.le_of_ble_eq_true rfl⟩ rfl (Nat.le_of_ble_eq_true rfl) ((K.2.2.2.2.2.2.2.2.2.2.2.2.2.1 e1_13))))))))))))) (fun e1_13 => Decidable.byCases (fun e1_14 => s_tableIn 322 dX11_letters_1 (by rw [e1_14] <;> decide) (by rw [e1_14] <;> decide) (by rw [e1_14] <;> rfl) rfl (s_bipush 110 dX11_letters_322 (by decide) (s_bipush 111 dX11_letters_324 (by decide) (s_bipush 116 dX11_letters_326 (by decide) (s_iconst 0 dX11_letters_328 (by decide) (s_iconst 0 dX11_letters_329 (by decide) (s_iconst 0 dX11_letters_330 (by decide) (s_iconst 0 dX11_letters_331 (by decide) (s_iconst 0 dX11_letters_332 (by decide) (Vw.mask [false] (s_callS (As := [.int 110, .int 111, .int 116, .int 0, .int 0, .int 0, .int 0, .int 0]) dX11_letters_333 rfl lsX11_161 ⟨Nat.le_of_ble_eq_true rfl, Nat.le_of_ble_eq_true rfl⟩ rfl (Nat.le_of_ble_eq_true rfl) ((K.2.2.2.2.2.2.2.2.2.2.2.2.2.2.1 e1_14))))))))))))) (fun e1_14 => Decidable.byCases (fun e1_15 => s_tableIn 337 dX11_letters_1 (by rw [e1_15] <;> decide) (by rw [e1_15] <;> decide) (by rw [e1_15] <;> rfl) rfl (s_bipush 109 dX11_letters_337 (by decide) (s_bipush 97 dX11_letters_339 (by decide) (s_bipush 114 dX11_letters_341 (by decide) (s_bipush 107 dX11_letters_343 (by decide) (s_bipush 101 dX11_letters_345 (by decide) (s_bipush 100 dX11_letters_347 (by decide) (s_iconst 0 dX11_letters_349 (by decide) (s_iconst 0 dX11_letters_350 (by decide) (Vw.mask [false] (s_callS (As := [.int 109, .int 97, .int 114, .int 107, .int 101, .int 100, .int 0, .int 0]) dX11_letters_351 rfl lsX11_161 ⟨Nat.le_of_ble_eq_true rfl, Nat.le_of_ble_eq_true rfl⟩ rfl (Nat.le_of_ble_eq_true rfl) ((K.2.2.2.2.2.2.2.2.2.2.2.2.2.2.2.1 e1_15))))))))))))) (fun e1_15 => Decidable.byCases (fun e1_16 => s_tableIn 355 dX11_letters_1 (by rw [e1_16] <;> decide) (by rw [e1_16] <;> decide) (by rw [e1_16] <;> rfl) rfl (s_bipush 114 dX11_letters_355 (by decide) (s_bipush 105 dX11_letters_357 (by decide) (s_bipush 103 dX11_letters_359 (by decide) (s_bipush 104 dX11_letters_361 (by decide) (s_bipush 116 dX11_letters_363 (by decide) (s_iconst 0 dX11_letters_365 (by decide) (s_iconst 0 dX11_letters_366 (by decide) (s_iconst 0 dX11_letters_367 (by decide) (Vw.mask [false] (s_callS (As := [.int 114, .int 105, .int 103, .int 104, .int 116, .int 0, .int 0, .int 0]) dX11_letters_368 rfl lsX11_161 ⟨Nat.le_of_ble_eq_true rfl, Nat.le_of_ble_eq_true rfl⟩ rfl (Nat.le_of_ble_eq_true rfl) ((K.2.2.2.2.2.2.2.2.2.2.2.2.2.2.2.2.1 e1_16))))))))))))) (fun e1_16 => Decidable.byCases (fun e1_17 => s_tableIn 372 dX11_letters_1 (by rw [e1_17] <;> decide) (by rw [e1_17] <;> decide) (by rw [e1_17] <;> rfl) rfl (s_bipush 97 dX11_letters_372 (by decide) (s_bipush 98 dX11_letters_374 (by decide) (s_bipush 111 dX11_letters_376 (by decide) (s_bipush 118 dX11_letters_378 (by decide) (s_bipush 101 dX11_letters_380 (by decide) (s_iconst 0 dX11_letters_382 (by decide) (s_iconst 0 dX11_letters_383 (by decide) (s_iconst 0 dX11_letters_384 (by decide) (Vw.mask [false] (s_callS (As := [.int 97, .int 98, .int 111, .int 118, .int 101, .int 0, .int 0, .int 0]) dX11_letters_385 rfl lsX11_161 ⟨Nat.le_of_ble_eq_true rfl, Nat.le_of_ble_eq_true rfl⟩ rfl (Nat.le_of_ble_eq_true rfl) ((K.2.2.2.2.2.2.2.2.2.2.2.2.2.2.2.2.2.1 e1_17))))))))))))) (fun e1_17 => s_tableOut 389 dX11_letters_1 (sw_out [0, 1, 2, 3, 4, 5, 6, 7, 8, 9, 10, 11, 12, 13, 14, 15, 16, 17] (by simp only [List.forall_mem_cons]; exact ⟨e1_0, e1_1, e1_2, e1_3, e1_4, e1_5, e1_6, e1_7, e1_8, e1_9, e1_10, e1_11, e1_12, e1_13, e1_14, e1_15, e1_16, e1_17, fun _ hh => nomatch hh⟩) (fun k z1 z2 => by rcases (show k = 0 ∨ k = 1 ∨ k = 2 ∨ k = 3 ∨ k = 4 ∨ k = 5 ∨ k = 6 ∨ k = 7 ∨ k = 8 ∨ k = 9 ∨ k = 10 ∨ k = 11 ∨ k = 12 ∨ k = 13 ∨ k = 14 ∨ k = 15 ∨ k = 16 ∨ k = 17 by omega) with rfl | rfl | rfl | rfl | rfl | rfl | rfl | rfl | rfl | rfl | rfl | rfl | rfl | rfl | rfl | rfl | rfl | rfl <;> decide)) rfl (s_bipush 108 dX11_letters_389 (by decide) (s_bipush 111 dX11_letters_391 (by decide) (s_bipush 117 dX11_letters_393 (by decide) (s_bipush 100 dX11_letters_395 (by decide) (s_iconst 0 dX11_letters_397 (by decide) (s_iconst 0 dX11_letters_398 (by decide) (s_iconst 0 dX11_letters_399 (by decide) (s_iconst 0 dX11_letters_400 (by decide) (Vw.mask [false] (s_callS (As := [.int 108, .int 111, .int 117, .int 100, .int 0, .int 0, .int 0, .int 0]) dX11_letters_401 rfl lsX11_161 ⟨Nat.le_of_ble_eq_true rfl, Nat.le_of_ble_eq_true rfl⟩ rfl (Nat.le_of_ble_eq_true rfl) ((K.2.2.2.2.2.2.2.2.2.2.2.2.2.2.2.2.2.2 e1_0 e1_1 e1_2 e1_3 e1_4 e1_5 e1_6 e1_7 e1_8 e1_9 e1_10 e1_11 e1_12 e1_13 e1_14 e1_15 e1_16 e1_17)))))))))))))))))))))))))))))))
theorem bX11_letters_103 {G : GX} {h : mH} {Q : mO → mH → Prop} {vs0 : Int64} (hi : Iv h) (K : Q (.inl (some (.long vs0))) h) : Vw G jX11_letters 103 [none] [.long vs0] h Q :=
  s_lreturn dX11_letters_103 rfl K
theorem bX11_letters_119 {G : GX} {h : mH} {Q : mO → mH → Prop} {vs0 : Int64} (hi : Iv h) (K : Q (.inl (some (.long vs0))) h) : Vw G jX11_letters 119 [none] [.long vs0] h Q :=
  s_lreturn dX11_letters_119 rfl K
theorem bX11_letters_135 {G : GX} {h : mH} {Q : mO → mH → Prop} {vs0 : Int64} (hi : Iv h) (K : Q (.inl (some (.long vs0))) h) : Vw G jX11_letters 135 [none] [.long vs0] h Q :=
  s_lreturn dX11_letters_135 rfl K
theorem bX11_letters_155 {G : GX} {h : mH} {Q : mO → mH → Prop} {vs0 : Int64} (hi : Iv h) (K : Q (.inl (some (.long vs0))) h) : Vw G jX11_letters 155 [none] [.long vs0] h Q :=
  s_lreturn dX11_letters_155 rfl K
theorem bX11_letters_171 {G : GX} {h : mH} {Q : mO → mH → Prop} {vs0 : Int64} (hi : Iv h) (K : Q (.inl (some (.long vs0))) h) : Vw G jX11_letters 171 [none] [.long vs0] h Q :=
  s_lreturn dX11_letters_171 rfl K
theorem bX11_letters_190 {G : GX} {h : mH} {Q : mO → mH → Prop} {vs0 : Int64} (hi : Iv h) (K : Q (.inl (some (.long vs0))) h) : Vw G jX11_letters 190 [none] [.long vs0] h Q :=
  s_lreturn dX11_letters_190 rfl K
theorem bX11_letters_206 {G : GX} {h : mH} {Q : mO → mH → Prop} {vs0 : Int64} (hi : Iv h) (K : Q (.inl (some (.long vs0))) h) : Vw G jX11_letters 206 [none] [.long vs0] h Q :=
  s_lreturn dX11_letters_206 rfl K
theorem bX11_letters_222 {G : GX} {h : mH} {Q : mO → mH → Prop} {vs0 : Int64} (hi : Iv h) (K : Q (.inl (some (.long vs0))) h) : Vw G jX11_letters 222 [none] [.long vs0] h Q :=
  s_lreturn dX11_letters_222 rfl K
theorem bX11_letters_239 {G : GX} {h : mH} {Q : mO → mH → Prop} {vs0 : Int64} (hi : Iv h) (K : Q (.inl (some (.long vs0))) h) : Vw G jX11_letters 239 [none] [.long vs0] h Q :=
  s_lreturn dX11_letters_239 rfl K
theorem bX11_letters_255 {G : GX} {h : mH} {Q : mO → mH → Prop} {vs0 : Int64} (hi : Iv h) (K : Q (.inl (some (.long vs0))) h) : Vw G jX11_letters 255 [none] [.long vs0] h Q :=
  s_lreturn dX11_letters_255 rfl K
theorem bX11_letters_271 {G : GX} {h : mH} {Q : mO → mH → Prop} {vs0 : Int64} (hi : Iv h) (K : Q (.inl (some (.long vs0))) h) : Vw G jX11_letters 271 [none] [.long vs0] h Q :=
  s_lreturn dX11_letters_271 rfl K
theorem bX11_letters_289 {G : GX} {h : mH} {Q : mO → mH → Prop} {vs0 : Int64} (hi : Iv h) (K : Q (.inl (some (.long vs0))) h) : Vw G jX11_letters 289 [none] [.long vs0] h Q :=
  s_lreturn dX11_letters_289 rfl K
theorem bX11_letters_305 {G : GX} {h : mH} {Q : mO → mH → Prop} {vs0 : Int64} (hi : Iv h) (K : Q (.inl (some (.long vs0))) h) : Vw G jX11_letters 305 [none] [.long vs0] h Q :=
  s_lreturn dX11_letters_305 rfl K
theorem bX11_letters_321 {G : GX} {h : mH} {Q : mO → mH → Prop} {vs0 : Int64} (hi : Iv h) (K : Q (.inl (some (.long vs0))) h) : Vw G jX11_letters 321 [none] [.long vs0] h Q :=
  s_lreturn dX11_letters_321 rfl K
theorem bX11_letters_336 {G : GX} {h : mH} {Q : mO → mH → Prop} {vs0 : Int64} (hi : Iv h) (K : Q (.inl (some (.long vs0))) h) : Vw G jX11_letters 336 [none] [.long vs0] h Q :=
  s_lreturn dX11_letters_336 rfl K
theorem bX11_letters_354 {G : GX} {h : mH} {Q : mO → mH → Prop} {vs0 : Int64} (hi : Iv h) (K : Q (.inl (some (.long vs0))) h) : Vw G jX11_letters 354 [none] [.long vs0] h Q :=
  s_lreturn dX11_letters_354 rfl K
theorem bX11_letters_371 {G : GX} {h : mH} {Q : mO → mH → Prop} {vs0 : Int64} (hi : Iv h) (K : Q (.inl (some (.long vs0))) h) : Vw G jX11_letters 371 [none] [.long vs0] h Q :=
  s_lreturn dX11_letters_371 rfl K
theorem bX11_letters_388 {G : GX} {h : mH} {Q : mO → mH → Prop} {vs0 : Int64} (hi : Iv h) (K : Q (.inl (some (.long vs0))) h) : Vw G jX11_letters 388 [none] [.long vs0] h Q :=
  s_lreturn dX11_letters_388 rfl K
theorem bX11_letters_404 {G : GX} {h : mH} {Q : mO → mH → Prop} {vs0 : Int64} (hi : Iv h) (K : Q (.inl (some (.long vs0))) h) : Vw G jX11_letters 404 [none] [.long vs0] h Q :=
  s_lreturn dX11_letters_404 rfl K
theorem eX11_letters {G : GX} {h : mH} {Q : mO → mH → Prop} {v0 : Int32} (hi : Iv h) (K : (v0 = 0 → WM G jX11_spelled [.int 101, .int 118, .int 101, .int 110, .int 0, .int 0, .int 0, .int 0] h (Aft G jX11_letters 100 [none] [] Q)) ∧ (v0 = 1 → WM G jX11_spelled [.int 98, .int 111, .int 119, .int 108, .int 0, .int 0, .int 0, .int 0] h (Aft G jX11_letters 116 [none] [] Q)) ∧ (v0 = 2 → WM G jX11_spelled [.int 107, .int 105, .int 99, .int 107, .int 0, .int 0, .int 0, .int 0] h (Aft G jX11_letters 132 [none] [] Q)) ∧ (v0 = 3 → WM G jX11_spelled [.int 112, .int 101, .int 110, .int 100, .int 117, .int 108, .int 117, .int 109] h (Aft G jX11_letters 152 [none] [] Q)) ∧ (v0 = 4 → WM G jX11_spelled [.int 99, .int 97, .int 114, .int 116, .int 0, .int 0, .int 0, .int 0] h (Aft G jX11_letters 168 [none] [] Q)) ∧ (v0 = 5 → WM G jX11_spelled [.int 112, .int 101, .int 110, .int 110, .int 105, .int 101, .int 115, .int 0] h (Aft G jX11_letters 187 [none] [] Q)) ∧ (v0 = 6 → WM G jX11_spelled [.int 100, .int 114, .int 97, .int 119, .int 0, .int 0, .int 0, .int 0] h (Aft G jX11_letters 203 [none] [] Q)) ∧ (v0 = 7 → WM G jX11_spelled [.int 108, .int 105, .int 102, .int 116, .int 0, .int 0, .int 0, .int 0] h (Aft G jX11_letters 219 [none] [] Q)) ∧ (v0 = 8 → WM G jX11_spelled [.int 112, .int 101, .int 110, .int 110, .int 121, .int 0, .int 0, .int 0] h (Aft G jX11_letters 236 [none] [] Q)) ∧ (v0 = 9 → WM G jX11_spelled [.int 115, .int 105, .int 122, .int 101, .int 0, .int 0, .int 0, .int 0] h (Aft G jX11_letters 252 [none] [] Q)) ∧ (v0 = 10 → WM G jX11_spelled [.int 116, .int 117, .int 114, .int 110, .int 0, .int 0, .int 0, .int 0] h (Aft G jX11_letters 268 [none] [] Q)) ∧ (v0 = 11 → WM G jX11_spelled [.int 114, .int 101, .int 112, .int 101, .int 97, .int 116, .int 0, .int 0] h (Aft G jX11_letters 286 [none] [] Q)) ∧ (v0 = 12 → WM G jX11_spelled [.int 119, .int 104, .int 101, .int 110, .int 0, .int 0, .int 0, .int 0] h (Aft G jX11_letters 302 [none] [] Q)) ∧ (v0 = 13 → WM G jX11_spelled [.int 101, .int 108, .int 115, .int 101, .int 0, .int 0, .int 0, .int 0] h (Aft G jX11_letters 318 [none] [] Q)) ∧ (v0 = 14 → WM G jX11_spelled [.int 110, .int 111, .int 116, .int 0, .int 0, .int 0, .int 0, .int 0] h (Aft G jX11_letters 333 [none] [] Q)) ∧ (v0 = 15 → WM G jX11_spelled [.int 109, .int 97, .int 114, .int 107, .int 101, .int 100, .int 0, .int 0] h (Aft G jX11_letters 351 [none] [] Q)) ∧ (v0 = 16 → WM G jX11_spelled [.int 114, .int 105, .int 103, .int 104, .int 116, .int 0, .int 0, .int 0] h (Aft G jX11_letters 368 [none] [] Q)) ∧ (v0 = 17 → WM G jX11_spelled [.int 97, .int 98, .int 111, .int 118, .int 101, .int 0, .int 0, .int 0] h (Aft G jX11_letters 385 [none] [] Q)) ∧ (¬ v0 = 0 → ¬ v0 = 1 → ¬ v0 = 2 → ¬ v0 = 3 → ¬ v0 = 4 → ¬ v0 = 5 → ¬ v0 = 6 → ¬ v0 = 7 → ¬ v0 = 8 → ¬ v0 = 9 → ¬ v0 = 10 → ¬ v0 = 11 → ¬ v0 = 12 → ¬ v0 = 13 → ¬ v0 = 14 → ¬ v0 = 15 → ¬ v0 = 16 → ¬ v0 = 17 → WM G jX11_spelled [.int 108, .int 111, .int 117, .int 100, .int 0, .int 0, .int 0, .int 0] h (Aft G jX11_letters 401 [none] [] Q))) : WM G jX11_letters [.int v0] h Q :=
  WM.body (ls := [some (.int v0)]) rfl (by decide +kernel) rfl (Nat.le_of_ble_eq_true rfl) rfl ((bX11_letters_0 hi  K))
theorem dX11_is_0 : decode cX11_is 0 = .ok (.aload_n 0, 1) := by decide +kernel
theorem dX11_is_1 : decode cX11_is 1 = .ok (.getfield 146, 3) := by decide +kernel
theorem dX11_is_4 : decode cX11_is 4 = .ok (.iconst 1, 1) := by decide +kernel
theorem dX11_is_5 : decode cX11_is 5 = .ok (.if_icmp .ne 28, 3) := by decide +kernel
theorem dX11_is_8 : decode cX11_is 8 = .ok (.aload_n 0, 1) := by decide +kernel
theorem dX11_is_9 : decode cX11_is 9 = .ok (.getfield 156, 3) := by decide +kernel
theorem dX11_is_12 : decode cX11_is 12 = .ok (.bipush 9, 2) := by decide +kernel
theorem dX11_is_14 : decode cX11_is 14 = .ok (.if_icmp .ge 19, 3) := by decide +kernel
theorem dX11_is_17 : decode cX11_is 17 = .ok (.aload_n 0, 1) := by decide +kernel
theorem dX11_is_18 : decode cX11_is 18 = .ok (.getfield 136, 3) := by decide +kernel
theorem dX11_is_21 : decode cX11_is 21 = .ok (.iload_n 1, 1) := by decide +kernel
theorem dX11_is_22 : decode cX11_is 22 = .ok (.invokestatic 165, 3) := by decide +kernel
theorem dX11_is_25 : decode cX11_is 25 = .ok (.lcmp, 1) := by decide +kernel
theorem dX11_is_26 : decode cX11_is 26 = .ok (.ifCond .ne 7, 3) := by decide +kernel
theorem dX11_is_29 : decode cX11_is 29 = .ok (.iconst 1, 1) := by decide +kernel
theorem dX11_is_30 : decode cX11_is 30 = .ok (.goto 4, 3) := by decide +kernel
theorem dX11_is_33 : decode cX11_is 33 = .ok (.iconst 0, 1) := by decide +kernel
theorem dX11_is_34 : decode cX11_is 34 = .ok (.ireturn, 1) := by decide +kernel
theorem bX11_is_0 {G : GX} {h : mH} {Q : mO → mH → Prop} {v1 : Int32} (hi : Iv h) (K : (¬ (gI h 83 15) = 1 → Q (.inl (some (.int 0))) h) ∧ ((gI h 83 15) = 1 → ((9 ≤ (gI h 83 17) → Q (.inl (some (.int 0))) h) ∧ (¬ 9 ≤ (gI h 83 17) → WM G jX11_letters [.int v1] h (Aft G jX11_is 22 [none, none] [.long (gJ h 83 20)] Q))))) : Vw G jX11_is 0 [some (.ref 83), some (.int v1)] [] h Q :=
  s_aload_n dX11_is_0 rfl (s_getI dX11_is_1 flX11_146 (Or.inl rfl) (hi.sh rfl rfl) (s_iconst 1 dX11_is_4 (by decide) (s_icmp_ne 33 dX11_is_5 rfl (fun q3 => s_iconst 0 dX11_is_33 (by decide) (s_zreturn dX11_is_34 rfl (by decide) (K.1 q3))) (fun q3 => s_aload_n dX11_is_8 rfl (s_getI dX11_is_9 flX11_156 (Or.inl rfl) (hi.sh rfl rfl) (s_bipush 9 dX11_is_12 (by decide) (s_icmp_ge 33 dX11_is_14 rfl (fun q7 => s_iconst 0 dX11_is_33 (by decide) (s_zreturn dX11_is_34 rfl (by decide) ((K.2 q3).1 q7))) (fun q7 => s_aload_n dX11_is_17 rfl (s_getJ dX11_is_18 flX11_136 rfl (hi.sh rfl rfl) (s_iload_n dX11_is_21 rfl (Vw.mask [false, false] (s_callS (As := [.int v1]) dX11_is_22 rfl lsX11_165 ⟨Nat.le_of_ble_eq_true rfl, Nat.le_of_ble_eq_true rfl⟩ rfl (Nat.le_of_ble_eq_true rfl) (((K.2 q3).2 q7))))))))))))))
theorem bX11_is_25 {G : GX} {h : mH} {Q : mO → mH → Prop} {vs0 : Int64} {vs1 : Int64} (hi : Iv h) (K : (¬ (lg_cmp vs1 vs0) = 0 → Q (.inl (some (.int 0))) h) ∧ ((lg_cmp vs1 vs0) = 0 → Q (.inl (some (.int 1))) h)) : Vw G jX11_is 25 [none, none] [.long vs0, .long vs1] h Q :=
  s_lcmp dX11_is_25 (s_if_ne 33 dX11_is_26 rfl (fun q1 => s_iconst 0 dX11_is_33 (by decide) (s_zreturn dX11_is_34 rfl (by decide) (K.1 q1))) (fun q1 => s_iconst 1 dX11_is_29 (by decide) (s_goto 34 dX11_is_30 rfl (s_zreturn dX11_is_34 rfl (by decide) (K.2 q1)))))
theorem eX11_is {G : GX} {h : mH} {Q : mO → mH → Prop} {v1 : Int32} (hi : Iv h) (K : (¬ (gI h 83 15) = 1 → Q (.inl (some (.int 0))) h) ∧ ((gI h 83 15) = 1 → ((9 ≤ (gI h 83 17) → Q (.inl (some (.int 0))) h) ∧ (¬ 9 ≤ (gI h 83 17) → WM G jX11_letters [.int v1] h (Aft G jX11_is 22 [none, none] [.long (gJ h 83 20)] Q))))) : WM G jX11_is [.ref 83, .int v1] h Q :=
  WM.body (ls := [some (.ref 83), some (.int v1)]) rfl (by decide +kernel) rfl (Nat.le_of_ble_eq_true rfl) rfl ((bX11_is_0 hi  K))
theorem dX11_wrong_0 : decode cX11_wrong 0 = .ok (.aload_n 0, 1) := by decide +kernel
theorem dX11_wrong_1 : decode cX11_wrong 1 = .ok (.getfield 169, 3) := by decide +kernel
theorem dX11_wrong_4 : decode cX11_wrong 4 = .ok (.ifCond .eq 4, 3) := by decide +kernel
theorem dX11_wrong_7 : decode cX11_wrong 7 = .ok (.return_, 1) := by decide +kernel
theorem dX11_wrong_8 : decode cX11_wrong 8 = .ok (.aload_n 0, 1) := by decide +kernel
theorem dX11_wrong_9 : decode cX11_wrong 9 = .ok (.iload_n 1, 1) := by decide +kernel
theorem dX11_wrong_10 : decode cX11_wrong 10 = .ok (.putfield 169, 3) := by decide +kernel
theorem dX11_wrong_13 : decode cX11_wrong 13 = .ok (.aload_n 0, 1) := by decide +kernel
theorem dX11_wrong_14 : decode cX11_wrong 14 = .ok (.aload_n 0, 1) := by decide +kernel
theorem dX11_wrong_15 : decode cX11_wrong 15 = .ok (.getfield 133, 3) := by decide +kernel
theorem dX11_wrong_18 : decode cX11_wrong 18 = .ok (.putfield 28, 3) := by decide +kernel
theorem dX11_wrong_21 : decode cX11_wrong 21 = .ok (.return_, 1) := by decide +kernel
theorem bX11_wrong_0 {G : GX} {h : mH} {Q : mO → mH → Prop} {v1 : Int32} (hi : Iv h) (K : ((gI h 83 10) = 0 → Q (.inl none) (pI (pI h 83 10 v1) 83 11 (gI (pI h 83 10 v1) 83 16))) ∧ (¬ (gI h 83 10) = 0 → Q (.inl none) h)) : Vw G jX11_wrong 0 [some (.ref 83), some (.int v1)] [] h Q :=
  s_aload_n dX11_wrong_0 rfl (s_getI dX11_wrong_1 flX11_169 (Or.inl rfl) (hi.sh rfl rfl) (s_if_eq 8 dX11_wrong_4 rfl (fun q2 => s_aload_n dX11_wrong_8 rfl (s_iload_n dX11_wrong_9 rfl (s_putI dX11_wrong_10 flX11_169 ff10_10 rfl (hi.sh rfl rfl) (s_aload_n dX11_wrong_13 rfl (s_aload_n dX11_wrong_14 rfl (s_getI dX11_wrong_15 flX11_133 (Or.inl rfl) (hi.sh rfl rfl) (s_putI dX11_wrong_18 flX11_28 ff10_11 rfl (hi.sh rfl rfl) (s_return dX11_wrong_21 rfl (K.1 q2))))))))) (fun q2 => s_return dX11_wrong_7 rfl (K.2 q2))))
theorem eX11_wrong {G : GX} {h : mH} {Q : mO → mH → Prop} {v1 : Int32} (hi : Iv h) (K : ((gI h 83 10) = 0 → Q (.inl none) (pI (pI h 83 10 v1) 83 11 (gI (pI h 83 10 v1) 83 16))) ∧ (¬ (gI h 83 10) = 0 → Q (.inl none) h)) : WM G jX11_wrong [.ref 83, .int v1] h Q :=
  WM.body (ls := [some (.ref 83), some (.int v1)]) rfl (by decide +kernel) rfl (Nat.le_of_ble_eq_true rfl) rfl ((bX11_wrong_0 hi  K))
theorem dX11_need_0 : decode cX11_need 0 = .ok (.aload_n 0, 1) := by decide +kernel
theorem dX11_need_1 : decode cX11_need 1 = .ok (.invokevirtual 172, 3) := by decide +kernel
theorem dX11_need_4 : decode cX11_need 4 = .ok (.ifCond .ne 4, 3) := by decide +kernel
theorem dX11_need_7 : decode cX11_need 7 = .ok (.return_, 1) := by decide +kernel
theorem dX11_need_8 : decode cX11_need 8 = .ok (.iload_n 1, 1) := by decide +kernel
theorem dX11_need_9 : decode cX11_need 9 = .ok (.ifCond .eq 10, 3) := by decide +kernel
theorem dX11_need_12 : decode cX11_need 12 = .ok (.aload_n 0, 1) := by decide +kernel
theorem dX11_need_13 : decode cX11_need 13 = .ok (.invokevirtual 176, 3) := by decide +kernel
theorem dX11_need_16 : decode cX11_need 16 = .ok (.goto 8, 3) := by decide +kernel
theorem dX11_need_19 : decode cX11_need 19 = .ok (.aload_n 0, 1) := by decide +kernel
theorem dX11_need_20 : decode cX11_need 20 = .ok (.iconst 1, 1) := by decide +kernel
theorem dX11_need_21 : decode cX11_need 21 = .ok (.invokevirtual 179, 3) := by decide +kernel
theorem dX11_need_24 : decode cX11_need 24 = .ok (.return_, 1) := by decide +kernel
theorem bX11_need_0 {G : GX} {h : mH} {Q : mO → mH → Prop} {v1 : Int32} (hi : Iv h) (K : (¬ (fX11_isGood h) = 0 → ((v1 = 0 → WM G jX11_wrong [.ref 83, .int 1] h (Aft G jX11_need 21 [none, none] [] Q)) ∧ (¬ v1 = 0 → WM G jX11_steps [.ref 83] h (Aft G jX11_need 13 [none, none] [] Q)))) ∧ ((fX11_isGood h) = 0 → Q (.inl none) h)) : Vw G jX11_need 0 [some (.ref 83), some (.int v1)] [] h Q :=
  s_aload_n dX11_need_0 rfl (s_callV (As := []) dX11_need_1 rfl lvX11_172 ⟨Nat.le_of_ble_eq_true rfl, Nat.le_of_ble_eq_true rfl⟩ (hi.sh rfl rfl) ⟨_, _, by decide, rfl⟩ rfl (Nat.le_of_ble_eq_true rfl) (mX11_isGood hi   (s_if_ne 8 dX11_need_4 rfl (fun q2 => s_iload_n dX11_need_8 rfl (s_if_eq 19 dX11_need_9 rfl (fun q4 => s_aload_n dX11_need_19 rfl (s_iconst 1 dX11_need_20 (by decide) (Vw.mask [false, false] (s_callV (As := [.int 1]) dX11_need_21 rfl lvX11_179 ⟨Nat.le_of_ble_eq_true rfl, Nat.le_of_ble_eq_true rfl⟩ (hi.sh rfl rfl) ⟨_, _, by decide, rfl⟩ rfl (Nat.le_of_ble_eq_true rfl) (((K.1 q2).1 q4)))))) (fun q4 => s_aload_n dX11_need_12 rfl (Vw.mask [false, false] (s_callV (As := []) dX11_need_13 rfl lvX11_176 ⟨Nat.le_of_ble_eq_true rfl, Nat.le_of_ble_eq_true rfl⟩ (hi.sh rfl rfl) ⟨_, _, by decide, rfl⟩ rfl (Nat.le_of_ble_eq_true rfl) (((K.1 q2).2 q4))))))) (fun q2 => s_return dX11_need_7 rfl (K.2 q2)))))
theorem bX11_need_16 {G : GX} {h : mH} {Q : mO → mH → Prop} (hi : Iv h) (K : Vw G jX11_need 24 [none, none] [] h Q) : Vw G jX11_need 16 [none, none] [] h Q :=
  s_goto 24 dX11_need_16 rfl (K)
theorem bX11_need_24 {G : GX} {h : mH} {Q : mO → mH → Prop} (hi : Iv h) (K : Q (.inl none) h) : Vw G jX11_need 24 [none, none] [] h Q :=
  s_return dX11_need_24 rfl K
theorem eX11_need {G : GX} {h : mH} {Q : mO → mH → Prop} {v1 : Int32} (hi : Iv h) (K : (¬ (fX11_isGood h) = 0 → ((v1 = 0 → WM G jX11_wrong [.ref 83, .int 1] h (Aft G jX11_need 21 [none, none] [] Q)) ∧ (¬ v1 = 0 → WM G jX11_steps [.ref 83] h (Aft G jX11_need 13 [none, none] [] Q)))) ∧ ((fX11_isGood h) = 0 → Q (.inl none) h)) : WM G jX11_need [.ref 83, .int v1] h Q :=
  WM.body (ls := [some (.ref 83), some (.int v1)]) rfl (by decide +kernel) rfl (Nat.le_of_ble_eq_true rfl) rfl ((bX11_need_0 hi  K))
theorem dX11_number_0 : decode cX11_number 0 = .ok (.aload_n 0, 1) := by decide +kernel
theorem dX11_number_1 : decode cX11_number 1 = .ok (.invokevirtual 172, 3) := by decide +kernel
theorem dX11_number_4 : decode cX11_number 4 = .ok (.ifCond .ne 5, 3) := by decide +kernel
theorem dX11_number_7 : decode cX11_number 7 = .ok (.iconst 0, 1) := by decide +kernel
theorem dX11_number_8 : decode cX11_number 8 = .ok (.ireturn, 1) := by decide +kernel
theorem dX11_number_9 : decode cX11_number 9 = .ok (.aload_n 0, 1) := by decide +kernel
theorem dX11_number_10 : decode cX11_number 10 = .ok (.getfield 146, 3) := by decide +kernel
theorem dX11_number_13 : decode cX11_number 13 = .ok (.iconst 2, 1) := by decide +kernel
theorem dX11_number_14 : decode cX11_number 14 = .ok (.if_icmp .eq 11, 3) := by decide +kernel
theorem dX11_number_17 : decode cX11_number 17 = .ok (.aload_n 0, 1) := by decide +kernel
theorem dX11_number_18 : decode cX11_number 18 = .ok (.iconst 1, 1) := by decide +kernel
theorem dX11_number_19 : decode cX11_number 19 = .ok (.invokevirtual 179, 3) := by decide +kernel
theorem dX11_number_22 : decode cX11_number 22 = .ok (.goto 32, 3) := by decide +kernel
theorem dX11_number_25 : decode cX11_number 25 = .ok (.aload_n 0, 1) := by decide +kernel
theorem dX11_number_26 : decode cX11_number 26 = .ok (.getfield 156, 3) := by decide +kernel
theorem dX11_number_29 : decode cX11_number 29 = .ok (.iconst 3, 1) := by decide +kernel
theorem dX11_number_30 : decode cX11_number 30 = .ok (.if_icmp .gt 19, 3) := by decide +kernel
theorem dX11_number_33 : decode cX11_number 33 = .ok (.aload_n 0, 1) := by decide +kernel
theorem dX11_number_34 : decode cX11_number 34 = .ok (.getfield 140, 3) := by decide +kernel
theorem dX11_number_37 : decode cX11_number 37 = .ok (.iload_n 1, 1) := by decide +kernel
theorem dX11_number_38 : decode cX11_number 38 = .ok (.if_icmp .lt 11, 3) := by decide +kernel
theorem dX11_number_41 : decode cX11_number 41 = .ok (.aload_n 0, 1) := by decide +kernel
theorem dX11_number_42 : decode cX11_number 42 = .ok (.getfield 140, 3) := by decide +kernel
theorem dX11_number_45 : decode cX11_number 45 = .ok (.iload_n 2, 1) := by decide +kernel
theorem dX11_number_46 : decode cX11_number 46 = .ok (.if_icmp .le 8, 3) := by decide +kernel
theorem dX11_number_49 : decode cX11_number 49 = .ok (.aload_n 0, 1) := by decide +kernel
theorem dX11_number_50 : decode cX11_number 50 = .ok (.iconst 2, 1) := by decide +kernel
theorem dX11_number_51 : decode cX11_number 51 = .ok (.invokevirtual 179, 3) := by decide +kernel
theorem dX11_number_54 : decode cX11_number 54 = .ok (.aload_n 0, 1) := by decide +kernel
theorem dX11_number_55 : decode cX11_number 55 = .ok (.getfield 140, 3) := by decide +kernel
theorem dX11_number_58 : decode cX11_number 58 = .ok (.istore_n 3, 1) := by decide +kernel
theorem dX11_number_59 : decode cX11_number 59 = .ok (.aload_n 0, 1) := by decide +kernel
theorem dX11_number_60 : decode cX11_number 60 = .ok (.invokevirtual 172, 3) := by decide +kernel
theorem dX11_number_63 : decode cX11_number 63 = .ok (.ifCond .eq 7, 3) := by decide +kernel
theorem dX11_number_66 : decode cX11_number 66 = .ok (.aload_n 0, 1) := by decide +kernel
theorem dX11_number_67 : decode cX11_number 67 = .ok (.invokevirtual 176, 3) := by decide +kernel
theorem dX11_number_70 : decode cX11_number 70 = .ok (.iload_n 3, 1) := by decide +kernel
theorem dX11_number_71 : decode cX11_number 71 = .ok (.ireturn, 1) := by decide +kernel
theorem bX11_number_0 {G : GX} {h : mH} {Q : mO → mH → Prop} {v1 : Int32} {v2 : Int32} (hi : Iv h) (K : (¬ (fX11_isGood h) = 0 → (((gI h 83 15) = 2 → ((3 < (gI h 83 17) → Vw G jX11_number 49 [some (.ref 83), none, none, none] [] h Q) ∧ (¬ 3 < (gI h 83 17) → (((gI h 83 18) < v1 → Vw G jX11_number 49 [some (.ref 83), none, none, none] [] h Q) ∧ (¬ (gI h 83 18) < v1 → (((gI h 83 18) ≤ v2 → Vw G jX11_number 54 [some (.ref 83), none, none, none] [] h Q) ∧ (¬ (gI h 83 18) ≤ v2 → Vw G jX11_number 49 [some (.ref 83), none, none, none] [] h Q))))))) ∧ (¬ (gI h 83 15) = 2 → WM G jX11_wrong [.ref 83, .int 1] h (Aft G jX11_number 19 [some (.ref 83), none, none, none] [] Q)))) ∧ ((fX11_isGood h) = 0 → Q (.inl (some (.int 0))) h)) : Vw G jX11_number 0 [some (.ref 83), some (.int v1), some (.int v2), none] [] h Q :=
  s_aload_n dX11_number_0 rfl (s_callV (As := []) dX11_number_1 rfl lvX11_172 ⟨Nat.le_of_ble_eq_true rfl, Nat.le_of_ble_eq_true rfl⟩ (hi.sh rfl rfl) ⟨_, _, by decide, rfl⟩ rfl (Nat.le_of_ble_eq_true rfl) (mX11_isGood hi   (s_if_ne 9 dX11_number_4 rfl (fun q2 => s_aload_n dX11_number_9 rfl (s_getI dX11_number_10 flX11_146 (Or.inl rfl) (hi.sh rfl rfl) (s_iconst 2 dX11_number_13 (by decide) (s_icmp_eq 25 dX11_number_14 rfl (fun q6 => s_aload_n dX11_number_25 rfl (s_getI dX11_number_26 flX11_156 (Or.inl rfl) (hi.sh rfl rfl) (s_iconst 3 dX11_number_29 (by decide) (s_icmp_gt 49 dX11_number_30 rfl (fun q10 => Vw.mask [true, false, false, false] ((((K.1 q2).1 q6).1 q10))) (fun q10 => s_aload_n dX11_number_33 rfl (s_getI dX11_number_34 flX11_140 (Or.inl rfl) (hi.sh rfl rfl) (s_iload_n dX11_number_37 rfl (s_icmp_lt 49 dX11_number_38 rfl (fun q14 => Vw.mask [true, false, false, false] (((((K.1 q2).1 q6).2 q10).1 q14))) (fun q14 => s_aload_n dX11_number_41 rfl (s_getI dX11_number_42 flX11_140 (Or.inl rfl) (hi.sh rfl rfl) (s_iload_n dX11_number_45 rfl (s_icmp_le 54 dX11_number_46 rfl (fun q18 => Vw.mask [true, false, false, false] ((((((K.1 q2).1 q6).2 q10).2 q14).1 q18))) (fun q18 => Vw.mask [true, false, false, false] ((((((K.1 q2).1 q6).2 q10).2 q14).2 q18))))))))))))))) (fun q6 => s_aload_n dX11_number_17 rfl (s_iconst 1 dX11_number_18 (by decide) (Vw.mask [true, false, false, false] (s_callV (As := [.int 1]) dX11_number_19 rfl lvX11_179 ⟨Nat.le_of_ble_eq_true rfl, Nat.le_of_ble_eq_true rfl⟩ (hi.sh rfl rfl) ⟨_, _, by decide, rfl⟩ rfl (Nat.le_of_ble_eq_true rfl) (((K.1 q2).2 q6)))))))))) (fun q2 => s_iconst 0 dX11_number_7 (by decide) (s_ireturn dX11_number_8 rfl (K.2 q2))))))
theorem bX11_number_22 {G : GX} {h : mH} {Q : mO → mH → Prop} (hi : Iv h) (K : Vw G jX11_number 54 [some (.ref 83), none, none, none] [] h Q) : Vw G jX11_number 22 [some (.ref 83), none, none, none] [] h Q :=
  s_goto 54 dX11_number_22 rfl (K)
theorem bX11_number_49 {G : GX} {h : mH} {Q : mO → mH → Prop} (hi : Iv h) (K : WM G jX11_wrong [.ref 83, .int 2] h (Aft G jX11_number 51 [some (.ref 83), none, none, none] [] Q)) : Vw G jX11_number 49 [some (.ref 83), none, none, none] [] h Q :=
  s_aload_n dX11_number_49 rfl (s_iconst 2 dX11_number_50 (by decide) (s_callV (As := [.int 2]) dX11_number_51 rfl lvX11_179 ⟨Nat.le_of_ble_eq_true rfl, Nat.le_of_ble_eq_true rfl⟩ (hi.sh rfl rfl) ⟨_, _, by decide, rfl⟩ rfl (Nat.le_of_ble_eq_true rfl) (K)))
theorem bX11_number_54 {G : GX} {h : mH} {Q : mO → mH → Prop} (hi : Iv h) (K : ((fX11_isGood h) = 0 → Vw G jX11_number 70 [none, none, none, some (.int (gI h 83 18))] [] h Q) ∧ (¬ (fX11_isGood h) = 0 → WM G jX11_steps [.ref 83] h (Aft G jX11_number 67 [none, none, none, some (.int (gI h 83 18))] [] Q))) : Vw G jX11_number 54 [some (.ref 83), none, none, none] [] h Q :=
  s_aload_n dX11_number_54 rfl (s_getI dX11_number_55 flX11_140 (Or.inl rfl) (hi.sh rfl rfl) (s_istore_n dX11_number_58 (Nat.le_of_ble_eq_true rfl) rfl (s_aload_n dX11_number_59 rfl (s_callV (As := []) dX11_number_60 rfl lvX11_172 ⟨Nat.le_of_ble_eq_true rfl, Nat.le_of_ble_eq_true rfl⟩ (hi.sh rfl rfl) ⟨_, _, by decide, rfl⟩ rfl (Nat.le_of_ble_eq_true rfl) (mX11_isGood hi   (s_if_eq 70 dX11_number_63 rfl (fun q5 => Vw.mask [false, false, false, true] ((K.1 q5))) (fun q5 => s_aload_n dX11_number_66 rfl (Vw.mask [false, false, false, true] (s_callV (As := []) dX11_number_67 rfl lvX11_176 ⟨Nat.le_of_ble_eq_true rfl, Nat.le_of_ble_eq_true rfl⟩ (hi.sh rfl rfl) ⟨_, _, by decide, rfl⟩ rfl (Nat.le_of_ble_eq_true rfl) ((K.2 q5)))))))))))
theorem bX11_number_70 {G : GX} {h : mH} {Q : mO → mH → Prop} {v3 : Int32} (hi : Iv h) (K : Q (.inl (some (.int v3))) h) : Vw G jX11_number 70 [none, none, none, some (.int v3)] [] h Q :=
  s_iload_n dX11_number_70 rfl (s_ireturn dX11_number_71 rfl K)
theorem eX11_number {G : GX} {h : mH} {Q : mO → mH → Prop} {v1 : Int32} {v2 : Int32} (hi : Iv h) (K : (¬ (fX11_isGood h) = 0 → (((gI h 83 15) = 2 → ((3 < (gI h 83 17) → Vw G jX11_number 49 [some (.ref 83), none, none, none] [] h Q) ∧ (¬ 3 < (gI h 83 17) → (((gI h 83 18) < v1 → Vw G jX11_number 49 [some (.ref 83), none, none, none] [] h Q) ∧ (¬ (gI h 83 18) < v1 → (((gI h 83 18) ≤ v2 → Vw G jX11_number 54 [some (.ref 83), none, none, none] [] h Q) ∧ (¬ (gI h 83 18) ≤ v2 → Vw G jX11_number 49 [some (.ref 83), none, none, none] [] h Q))))))) ∧ (¬ (gI h 83 15) = 2 → WM G jX11_wrong [.ref 83, .int 1] h (Aft G jX11_number 19 [some (.ref 83), none, none, none] [] Q)))) ∧ ((fX11_isGood h) = 0 → Q (.inl (some (.int 0))) h)) : WM G jX11_number [.ref 83, .int v1, .int v2] h Q :=
  WM.body (ls := [some (.ref 83), some (.int v1), some (.int v2), none]) rfl (by decide +kernel) rfl (Nat.le_of_ble_eq_true rfl) rfl ((bX11_number_0 hi  K))
theorem dX11_signed_0 : decode cX11_signed 0 = .ok (.aload_n 0, 1) := by decide +kernel
theorem dX11_signed_1 : decode cX11_signed 1 = .ok (.invokevirtual 172, 3) := by decide +kernel
theorem dX11_signed_4 : decode cX11_signed 4 = .ok (.ifCond .eq 24, 3) := by decide +kernel
theorem dX11_signed_7 : decode cX11_signed 7 = .ok (.aload_n 0, 1) := by decide +kernel
theorem dX11_signed_8 : decode cX11_signed 8 = .ok (.getfield 146, 3) := by decide +kernel
theorem dX11_signed_11 : decode cX11_signed 11 = .ok (.iconst 3, 1) := by decide +kernel
theorem dX11_signed_12 : decode cX11_signed 12 = .ok (.if_icmp .ne 16, 3) := by decide +kernel
theorem dX11_signed_15 : decode cX11_signed 15 = .ok (.aload_n 0, 1) := by decide +kernel
theorem dX11_signed_16 : decode cX11_signed 16 = .ok (.getfield 143, 3) := by decide +kernel
theorem dX11_signed_19 : decode cX11_signed 19 = .ok (.bipush 45, 2) := by decide +kernel
theorem dX11_signed_21 : decode cX11_signed 21 = .ok (.if_icmp .ne 7, 3) := by decide +kernel
theorem dX11_signed_24 : decode cX11_signed 24 = .ok (.iconst 1, 1) := by decide +kernel
theorem dX11_signed_25 : decode cX11_signed 25 = .ok (.goto 4, 3) := by decide +kernel
theorem dX11_signed_28 : decode cX11_signed 28 = .ok (.iconst 0, 1) := by decide +kernel
theorem dX11_signed_29 : decode cX11_signed 29 = .ok (.istore_n 2, 1) := by decide +kernel
theorem dX11_signed_30 : decode cX11_signed 30 = .ok (.iload_n 2, 1) := by decide +kernel
theorem dX11_signed_31 : decode cX11_signed 31 = .ok (.ifCond .eq 7, 3) := by decide +kernel
theorem dX11_signed_34 : decode cX11_signed 34 = .ok (.aload_n 0, 1) := by decide +kernel
theorem dX11_signed_35 : decode cX11_signed 35 = .ok (.invokevirtual 176, 3) := by decide +kernel
theorem dX11_signed_38 : decode cX11_signed 38 = .ok (.aload_n 0, 1) := by decide +kernel
theorem dX11_signed_39 : decode cX11_signed 39 = .ok (.iconst 0, 1) := by decide +kernel
theorem dX11_signed_40 : decode cX11_signed 40 = .ok (.iload_n 1, 1) := by decide +kernel
theorem dX11_signed_41 : decode cX11_signed 41 = .ok (.invokevirtual 182, 3) := by decide +kernel
theorem dX11_signed_44 : decode cX11_signed 44 = .ok (.istore_n 3, 1) := by decide +kernel
theorem dX11_signed_45 : decode cX11_signed 45 = .ok (.iload_n 2, 1) := by decide +kernel
theorem dX11_signed_46 : decode cX11_signed 46 = .ok (.ifCond .eq 9, 3) := by decide +kernel
theorem dX11_signed_49 : decode cX11_signed 49 = .ok (.iconst 0, 1) := by decide +kernel
theorem dX11_signed_50 : decode cX11_signed 50 = .ok (.iload_n 3, 1) := by decide +kernel
theorem dX11_signed_51 : decode cX11_signed 51 = .ok (.isub, 1) := by decide +kernel
theorem dX11_signed_52 : decode cX11_signed 52 = .ok (.goto 4, 3) := by decide +kernel
theorem dX11_signed_55 : decode cX11_signed 55 = .ok (.iload_n 3, 1) := by decide +kernel
theorem dX11_signed_56 : decode cX11_signed 56 = .ok (.ireturn, 1) := by decide +kernel
theorem bX11_signed_0 {G : GX} {h : mH} {Q : mO → mH → Prop} {v1 : Int32} (hi : Iv h) (K : ((fX11_isGood h) = 0 → Vw G jX11_signed 28 [some (.ref 83), some (.int v1), none, none] [] h Q) ∧ (¬ (fX11_isGood h) = 0 → ((¬ (gI h 83 15) = 3 → Vw G jX11_signed 28 [some (.ref 83), some (.int v1), none, none] [] h Q) ∧ ((gI h 83 15) = 3 → ((¬ (gI h 83 19) = 45 → Vw G jX11_signed 28 [some (.ref 83), some (.int v1), none, none] [] h Q) ∧ ((gI h 83 19) = 45 → WM G jX11_steps [.ref 83] h (Aft G jX11_signed 35 [some (.ref 83), some (.int v1), some (.int 1), none] [] Q))))))) : Vw G jX11_signed 0 [some (.ref 83), some (.int v1), none, none] [] h Q :=
  s_aload_n dX11_signed_0 rfl (s_callV (As := []) dX11_signed_1 rfl lvX11_172 ⟨Nat.le_of_ble_eq_true rfl, Nat.le_of_ble_eq_true rfl⟩ (hi.sh rfl rfl) ⟨_, _, by decide, rfl⟩ rfl (Nat.le_of_ble_eq_true rfl) (mX11_isGood hi   (s_if_eq 28 dX11_signed_4 rfl (fun q2 => (K.1 q2)) (fun q2 => s_aload_n dX11_signed_7 rfl (s_getI dX11_signed_8 flX11_146 (Or.inl rfl) (hi.sh rfl rfl) (s_iconst 3 dX11_signed_11 (by decide) (s_icmp_ne 28 dX11_signed_12 rfl (fun q6 => ((K.2 q2).1 q6)) (fun q6 => s_aload_n dX11_signed_15 rfl (s_getI dX11_signed_16 flX11_143 (Or.inl rfl) (hi.sh rfl rfl) (s_bipush 45 dX11_signed_19 (by decide) (s_icmp_ne 28 dX11_signed_21 rfl (fun q10 => (((K.2 q2).2 q6).1 q10)) (fun q10 => s_iconst 1 dX11_signed_24 (by decide) (s_goto 29 dX11_signed_25 rfl (s_istore_n dX11_signed_29 (Nat.le_of_ble_eq_true rfl) rfl (s_iload_n dX11_signed_30 rfl (s_if_eq 38 dX11_signed_31 rfl (fun q => absurd q (by decide)) (fun _ => s_aload_n dX11_signed_34 rfl (s_callV (As := []) dX11_signed_35 rfl lvX11_176 ⟨Nat.le_of_ble_eq_true rfl, Nat.le_of_ble_eq_true rfl⟩ (hi.sh rfl rfl) ⟨_, _, by decide, rfl⟩ rfl (Nat.le_of_ble_eq_true rfl) ((((K.2 q2).2 q6).2 q10))))))))))))))))))))
theorem bX11_signed_28 {G : GX} {h : mH} {Q : mO → mH → Prop} {v1 : Int32} (hi : Iv h) (K : Vw G jX11_signed 38 [some (.ref 83), some (.int v1), some (.int 0), none] [] h Q) : Vw G jX11_signed 28 [some (.ref 83), some (.int v1), none, none] [] h Q :=
  s_iconst 0 dX11_signed_28 (by decide) (s_istore_n dX11_signed_29 (Nat.le_of_ble_eq_true rfl) rfl (s_iload_n dX11_signed_30 rfl (s_if_eq 38 dX11_signed_31 rfl (fun _ => K) (fun q => absurd (by decide) q))))
theorem bX11_signed_38 {G : GX} {h : mH} {Q : mO → mH → Prop} {v1 : Int32} {v2 : Int32} (hi : Iv h) (K : WM G jX11_number [.ref 83, .int 0, .int v1] h (Aft G jX11_signed 41 [none, none, some (.int v2), none] [] Q)) : Vw G jX11_signed 38 [some (.ref 83), some (.int v1), some (.int v2), none] [] h Q :=
  s_aload_n dX11_signed_38 rfl (s_iconst 0 dX11_signed_39 (by decide) (s_iload_n dX11_signed_40 rfl (Vw.mask [false, false, true, false] (s_callV (As := [.int 0, .int v1]) dX11_signed_41 rfl lvX11_182 ⟨Nat.le_of_ble_eq_true rfl, Nat.le_of_ble_eq_true rfl⟩ (hi.sh rfl rfl) ⟨_, _, by decide, rfl⟩ rfl (Nat.le_of_ble_eq_true rfl) (K)))))
theorem bX11_signed_44 {G : GX} {h : mH} {Q : mO → mH → Prop} {v2 : Int32} {vs0 : Int32} (hi : Iv h) (K : (v2 = 0 → Q (.inl (some (.int vs0))) h) ∧ (¬ v2 = 0 → Q (.inl (some (.int (0 - vs0)))) h)) : Vw G jX11_signed 44 [none, none, some (.int v2), none] [.int vs0] h Q :=
  s_istore_n dX11_signed_44 (Nat.le_of_ble_eq_true rfl) rfl (s_iload_n dX11_signed_45 rfl (s_if_eq 55 dX11_signed_46 rfl (fun q2 => s_iload_n dX11_signed_55 rfl (s_ireturn dX11_signed_56 rfl (K.1 q2))) (fun q2 => s_iconst 0 dX11_signed_49 (by decide) (s_iload_n dX11_signed_50 rfl (s_isub dX11_signed_51 (s_goto 56 dX11_signed_52 rfl (s_ireturn dX11_signed_56 rfl (K.2 q2))))))))
theorem eX11_signed {G : GX} {h : mH} {Q : mO → mH → Prop} {v1 : Int32} (hi : Iv h) (K : ((fX11_isGood h) = 0 → Vw G jX11_signed 28 [some (.ref 83), some (.int v1), none, none] [] h Q) ∧ (¬ (fX11_isGood h) = 0 → ((¬ (gI h 83 15) = 3 → Vw G jX11_signed 28 [some (.ref 83), some (.int v1), none, none] [] h Q) ∧ ((gI h 83 15) = 3 → ((¬ (gI h 83 19) = 45 → Vw G jX11_signed 28 [some (.ref 83), some (.int v1), none, none] [] h Q) ∧ ((gI h 83 19) = 45 → WM G jX11_steps [.ref 83] h (Aft G jX11_signed 35 [some (.ref 83), some (.int v1), some (.int 1), none] [] Q))))))) : WM G jX11_signed [.ref 83, .int v1] h Q :=
  WM.body (ls := [some (.ref 83), some (.int v1), none, none]) rfl (by decide +kernel) rfl (Nat.le_of_ble_eq_true rfl) rfl ((bX11_signed_0 hi  K))
theorem dX11_readsPendulum_0 : decode cX11_readsPendulum 0 = .ok (.aload_n 0, 1) := by decide +kernel
theorem dX11_readsPendulum_1 : decode cX11_readsPendulum 1 = .ok (.getfield 186, 3) := by decide +kernel
theorem dX11_readsPendulum_4 : decode cX11_readsPendulum 4 = .ok (.iconst 4, 1) := by decide +kernel
theorem dX11_readsPendulum_5 : decode cX11_readsPendulum 5 = .ok (.if_icmp .ne 8, 3) := by decide +kernel
theorem dX11_readsPendulum_8 : decode cX11_readsPendulum 8 = .ok (.aload_n 0, 1) := by decide +kernel
theorem dX11_readsPendulum_9 : decode cX11_readsPendulum 9 = .ok (.iconst 2, 1) := by decide +kernel
theorem dX11_readsPendulum_10 : decode cX11_readsPendulum 10 = .ok (.invokevirtual 179, 3) := by decide +kernel
theorem dX11_readsPendulum_13 : decode cX11_readsPendulum 13 = .ok (.aload_n 0, 1) := by decide +kernel
theorem dX11_readsPendulum_14 : decode cX11_readsPendulum 14 = .ok (.invokevirtual 172, 3) := by decide +kernel
theorem dX11_readsPendulum_17 : decode cX11_readsPendulum 17 = .ok (.ifCond .ne 4, 3) := by decide +kernel
theorem dX11_readsPendulum_20 : decode cX11_readsPendulum 20 = .ok (.return_, 1) := by decide +kernel
theorem dX11_readsPendulum_21 : decode cX11_readsPendulum 21 = .ok (.aload_n 0, 1) := by decide +kernel
theorem dX11_readsPendulum_22 : decode cX11_readsPendulum 22 = .ok (.invokevirtual 176, 3) := by decide +kernel
theorem dX11_readsPendulum_25 : decode cX11_readsPendulum 25 = .ok (.iconst (-1), 1) := by decide +kernel
theorem dX11_readsPendulum_26 : decode cX11_readsPendulum 26 = .ok (.istore_n 1, 1) := by decide +kernel
theorem dX11_readsPendulum_27 : decode cX11_readsPendulum 27 = .ok (.iconst 0, 1) := by decide +kernel
theorem dX11_readsPendulum_28 : decode cX11_readsPendulum 28 = .ok (.istore_n 2, 1) := by decide +kernel
theorem dX11_readsPendulum_29 : decode cX11_readsPendulum 29 = .ok (.iload_n 2, 1) := by decide +kernel
theorem dX11_readsPendulum_30 : decode cX11_readsPendulum 30 = .ok (.iconst 3, 1) := by decide +kernel
theorem dX11_readsPendulum_31 : decode cX11_readsPendulum 31 = .ok (.if_icmp .ge 21, 3) := by decide +kernel
theorem dX11_readsPendulum_34 : decode cX11_readsPendulum 34 = .ok (.aload_n 0, 1) := by decide +kernel
theorem dX11_readsPendulum_35 : decode cX11_readsPendulum 35 = .ok (.iconst 0, 1) := by decide +kernel
theorem dX11_readsPendulum_36 : decode cX11_readsPendulum 36 = .ok (.iload_n 2, 1) := by decide +kernel
theorem dX11_readsPendulum_37 : decode cX11_readsPendulum 37 = .ok (.iadd, 1) := by decide +kernel
theorem dX11_readsPendulum_38 : decode cX11_readsPendulum 38 = .ok (.invokevirtual 189, 3) := by decide +kernel
theorem dX11_readsPendulum_41 : decode cX11_readsPendulum 41 = .ok (.ifCond .eq 5, 3) := by decide +kernel
theorem dX11_readsPendulum_44 : decode cX11_readsPendulum 44 = .ok (.iload_n 2, 1) := by decide +kernel
theorem dX11_readsPendulum_45 : decode cX11_readsPendulum 45 = .ok (.istore_n 1, 1) := by decide +kernel
theorem dX11_readsPendulum_46 : decode cX11_readsPendulum 46 = .ok (.iinc 2 1, 3) := by decide +kernel
theorem dX11_readsPendulum_49 : decode cX11_readsPendulum 49 = .ok (.goto (-20), 3) := by decide +kernel
theorem dX11_readsPendulum_52 : decode cX11_readsPendulum 52 = .ok (.aload_n 0, 1) := by decide +kernel
theorem dX11_readsPendulum_53 : decode cX11_readsPendulum 53 = .ok (.iload_n 1, 1) := by decide +kernel
theorem dX11_readsPendulum_54 : decode cX11_readsPendulum 54 = .ok (.iconst (-1), 1) := by decide +kernel
theorem dX11_readsPendulum_55 : decode cX11_readsPendulum 55 = .ok (.if_icmp .eq 7, 3) := by decide +kernel
theorem dX11_readsPendulum_58 : decode cX11_readsPendulum 58 = .ok (.iconst 1, 1) := by decide +kernel
theorem dX11_readsPendulum_59 : decode cX11_readsPendulum 59 = .ok (.goto 4, 3) := by decide +kernel
theorem dX11_readsPendulum_62 : decode cX11_readsPendulum 62 = .ok (.iconst 0, 1) := by decide +kernel
theorem dX11_readsPendulum_63 : decode cX11_readsPendulum 63 = .ok (.invokevirtual 192, 3) := by decide +kernel
theorem dX11_readsPendulum_66 : decode cX11_readsPendulum 66 = .ok (.aload_n 0, 1) := by decide +kernel
theorem dX11_readsPendulum_67 : decode cX11_readsPendulum 67 = .ok (.getfield 35, 3) := by decide +kernel
theorem dX11_readsPendulum_70 : decode cX11_readsPendulum 70 = .ok (.aload_n 0, 1) := by decide +kernel
theorem dX11_readsPendulum_71 : decode cX11_readsPendulum 71 = .ok (.getfield 186, 3) := by decide +kernel
theorem dX11_readsPendulum_74 : decode cX11_readsPendulum 74 = .ok (.iload_n 1, 1) := by decide +kernel
theorem dX11_readsPendulum_75 : decode cX11_readsPendulum 75 = .ok (.iastore, 1) := by decide +kernel
theorem dX11_readsPendulum_76 : decode cX11_readsPendulum 76 = .ok (.aload_n 0, 1) := by decide +kernel
theorem dX11_readsPendulum_77 : decode cX11_readsPendulum 77 = .ok (.getfield 38, 3) := by decide +kernel
theorem dX11_readsPendulum_80 : decode cX11_readsPendulum 80 = .ok (.aload_n 0, 1) := by decide +kernel
theorem dX11_readsPendulum_81 : decode cX11_readsPendulum 81 = .ok (.getfield 186, 3) := by decide +kernel
theorem dX11_readsPendulum_84 : decode cX11_readsPendulum 84 = .ok (.aload_n 0, 1) := by decide +kernel
theorem dX11_readsPendulum_85 : decode cX11_readsPendulum 85 = .ok (.iconst 2, 1) := by decide +kernel
theorem dX11_readsPendulum_86 : decode cX11_readsPendulum 86 = .ok (.bipush 40, 2) := by decide +kernel
theorem dX11_readsPendulum_88 : decode cX11_readsPendulum 88 = .ok (.invokevirtual 182, 3) := by decide +kernel
theorem dX11_readsPendulum_91 : decode cX11_readsPendulum 91 = .ok (.iastore, 1) := by decide +kernel
theorem dX11_readsPendulum_92 : decode cX11_readsPendulum 92 = .ok (.aload_n 0, 1) := by decide +kernel
theorem dX11_readsPendulum_93 : decode cX11_readsPendulum 93 = .ok (.getfield 44, 3) := by decide +kernel
theorem dX11_readsPendulum_96 : decode cX11_readsPendulum 96 = .ok (.bipush 8, 2) := by decide +kernel
theorem dX11_readsPendulum_98 : decode cX11_readsPendulum 98 = .ok (.aload_n 0, 1) := by decide +kernel
theorem dX11_readsPendulum_99 : decode cX11_readsPendulum 99 = .ok (.getfield 186, 3) := by decide +kernel
theorem dX11_readsPendulum_102 : decode cX11_readsPendulum 102 = .ok (.iadd, 1) := by decide +kernel
theorem dX11_readsPendulum_103 : decode cX11_readsPendulum 103 = .ok (.aload_n 0, 1) := by decide +kernel
theorem dX11_readsPendulum_104 : decode cX11_readsPendulum 104 = .ok (.iconst 0, 1) := by decide +kernel
theorem dX11_readsPendulum_105 : decode cX11_readsPendulum 105 = .ok (.bipush 90, 2) := by decide +kernel
theorem dX11_readsPendulum_107 : decode cX11_readsPendulum 107 = .ok (.invokevirtual 182, 3) := by decide +kernel
theorem dX11_readsPendulum_110 : decode cX11_readsPendulum 110 = .ok (.iastore, 1) := by decide +kernel
theorem dX11_readsPendulum_111 : decode cX11_readsPendulum 111 = .ok (.aload_n 0, 1) := by decide +kernel
theorem dX11_readsPendulum_112 : decode cX11_readsPendulum 112 = .ok (.getfield 44, 3) := by decide +kernel
theorem dX11_readsPendulum_115 : decode cX11_readsPendulum 115 = .ok (.iconst 4, 1) := by decide +kernel
theorem dX11_readsPendulum_116 : decode cX11_readsPendulum 116 = .ok (.aload_n 0, 1) := by decide +kernel
theorem dX11_readsPendulum_117 : decode cX11_readsPendulum 117 = .ok (.getfield 186, 3) := by decide +kernel
theorem dX11_readsPendulum_120 : decode cX11_readsPendulum 120 = .ok (.iadd, 1) := by decide +kernel
theorem dX11_readsPendulum_121 : decode cX11_readsPendulum 121 = .ok (.aload_n 0, 1) := by decide +kernel
theorem dX11_readsPendulum_122 : decode cX11_readsPendulum 122 = .ok (.iconst 0, 1) := by decide +kernel
theorem dX11_readsPendulum_123 : decode cX11_readsPendulum 123 = .ok (.bipush 99, 2) := by decide +kernel
theorem dX11_readsPendulum_125 : decode cX11_readsPendulum 125 = .ok (.invokevirtual 182, 3) := by decide +kernel
theorem dX11_readsPendulum_128 : decode cX11_readsPendulum 128 = .ok (.iastore, 1) := by decide +kernel
theorem dX11_readsPendulum_129 : decode cX11_readsPendulum 129 = .ok (.aload_n 0, 1) := by decide +kernel
theorem dX11_readsPendulum_130 : decode cX11_readsPendulum 130 = .ok (.getfield 41, 3) := by decide +kernel
theorem dX11_readsPendulum_133 : decode cX11_readsPendulum 133 = .ok (.aload_n 0, 1) := by decide +kernel
theorem dX11_readsPendulum_134 : decode cX11_readsPendulum 134 = .ok (.getfield 186, 3) := by decide +kernel
theorem dX11_readsPendulum_137 : decode cX11_readsPendulum 137 = .ok (.aload_n 0, 1) := by decide +kernel
theorem dX11_readsPendulum_138 : decode cX11_readsPendulum 138 = .ok (.iconst 0, 1) := by decide +kernel
theorem dX11_readsPendulum_139 : decode cX11_readsPendulum 139 = .ok (.bipush 99, 2) := by decide +kernel
theorem dX11_readsPendulum_141 : decode cX11_readsPendulum 141 = .ok (.invokevirtual 182, 3) := by decide +kernel
theorem dX11_readsPendulum_144 : decode cX11_readsPendulum 144 = .ok (.iastore, 1) := by decide +kernel
theorem dX11_readsPendulum_145 : decode cX11_readsPendulum 145 = .ok (.aload_n 0, 1) := by decide +kernel
theorem dX11_readsPendulum_146 : decode cX11_readsPendulum 146 = .ok (.invokevirtual 172, 3) := by decide +kernel
theorem dX11_readsPendulum_149 : decode cX11_readsPendulum 149 = .ok (.ifCond .eq 13, 3) := by decide +kernel
theorem dX11_readsPendulum_152 : decode cX11_readsPendulum 152 = .ok (.aload_n 0, 1) := by decide +kernel
theorem dX11_readsPendulum_153 : decode cX11_readsPendulum 153 = .ok (.dup, 1) := by decide +kernel
theorem dX11_readsPendulum_154 : decode cX11_readsPendulum 154 = .ok (.getfield 186, 3) := by decide +kernel
theorem dX11_readsPendulum_157 : decode cX11_readsPendulum 157 = .ok (.iconst 1, 1) := by decide +kernel
theorem dX11_readsPendulum_158 : decode cX11_readsPendulum 158 = .ok (.iadd, 1) := by decide +kernel
theorem dX11_readsPendulum_159 : decode cX11_readsPendulum 159 = .ok (.putfield 186, 3) := by decide +kernel
theorem dX11_readsPendulum_162 : decode cX11_readsPendulum 162 = .ok (.return_, 1) := by decide +kernel
theorem bX11_readsPendulum_0 {G : GX} {h : mH} {Q : mO → mH → Prop} (hi : Iv h) (K : (¬ (gI h 83 21) = 4 → Vw G jX11_readsPendulum 13 [some (.ref 83), none, none] [] h Q) ∧ ((gI h 83 21) = 4 → WM G jX11_wrong [.ref 83, .int 2] h (Aft G jX11_readsPendulum 10 [some (.ref 83), none, none] [] Q))) : Vw G jX11_readsPendulum 0 [some (.ref 83), none, none] [] h Q :=
  s_aload_n dX11_readsPendulum_0 rfl (s_getI dX11_readsPendulum_1 flX11_186 (Or.inl rfl) (hi.sh rfl rfl) (s_iconst 4 dX11_readsPendulum_4 (by decide) (s_icmp_ne 13 dX11_readsPendulum_5 rfl (fun q3 => (K.1 q3)) (fun q3 => s_aload_n dX11_readsPendulum_8 rfl (s_iconst 2 dX11_readsPendulum_9 (by decide) (s_callV (As := [.int 2]) dX11_readsPendulum_10 rfl lvX11_179 ⟨Nat.le_of_ble_eq_true rfl, Nat.le_of_ble_eq_true rfl⟩ (hi.sh rfl rfl) ⟨_, _, by decide, rfl⟩ rfl (Nat.le_of_ble_eq_true rfl) ((K.2 q3))))))))
theorem bX11_readsPendulum_13 {G : GX} {h : mH} {Q : mO → mH → Prop} (hi : Iv h) (K : (¬ (fX11_isGood h) = 0 → WM G jX11_steps [.ref 83] h (Aft G jX11_readsPendulum 22 [some (.ref 83), none, none] [] Q)) ∧ ((fX11_isGood h) = 0 → Q (.inl none) h)) : Vw G jX11_readsPendulum 13 [some (.ref 83), none, none] [] h Q :=
  s_aload_n dX11_readsPendulum_13 rfl (s_callV (As := []) dX11_readsPendulum_14 rfl lvX11_172 ⟨Nat.le_of_ble_eq_true rfl, Nat.le_of_ble_eq_true rfl⟩ (hi.sh rfl rfl) ⟨_, _, by decide, rfl⟩ rfl (Nat.le_of_ble_eq_true rfl) (mX11_isGood hi   (s_if_ne 21 dX11_readsPendulum_17 rfl (fun q2 => s_aload_n dX11_readsPendulum_21 rfl (s_callV (As := []) dX11_readsPendulum_22 rfl lvX11_176 ⟨Nat.le_of_ble_eq_true rfl, Nat.le_of_ble_eq_true rfl⟩ (hi.sh rfl rfl) ⟨_, _, by decide, rfl⟩ rfl (Nat.le_of_ble_eq_true rfl) ((K.1 q2)))) (fun q2 => s_return dX11_readsPendulum_20 rfl (K.2 q2)))))
theorem bX11_readsPendulum_25 {G : GX} {h : mH} {Q : mO → mH → Prop} (hi : Iv h) (K : Vw G jX11_readsPendulum 29 [some (.ref 83), some (.int (-1)), some (.int 0)] [] h Q) : Vw G jX11_readsPendulum 25 [some (.ref 83), none, none] [] h Q :=
  s_iconst (-1) dX11_readsPendulum_25 (by decide) (s_istore_n dX11_readsPendulum_26 (Nat.le_of_ble_eq_true rfl) rfl (s_iconst 0 dX11_readsPendulum_27 (by decide) (s_istore_n dX11_readsPendulum_28 (Nat.le_of_ble_eq_true rfl) rfl (K))))
theorem bX11_readsPendulum_29 {G : GX} {h : mH} {Q : mO → mH → Prop} {v1 : Int32} {v2 : Int32} (hi : Iv h) (K : (3 ≤ v2 → ((v1 = (-1) → WM G jX11_need [.ref 83, .int 0] h (Aft G jX11_readsPendulum 63 [some (.ref 83), some (.int v1), none] [] Q)) ∧ (¬ v1 = (-1) → WM G jX11_need [.ref 83, .int 1] h (Aft G jX11_readsPendulum 63 [some (.ref 83), some (.int v1), none] [] Q)))) ∧ (¬ 3 ≤ v2 → WM G jX11_is [.ref 83, .int (0 + v2)] h (Aft G jX11_readsPendulum 38 [some (.ref 83), some (.int v1), some (.int v2)] [] Q))) : Vw G jX11_readsPendulum 29 [some (.ref 83), some (.int v1), some (.int v2)] [] h Q :=
  s_iload_n dX11_readsPendulum_29 rfl (s_iconst 3 dX11_readsPendulum_30 (by decide) (s_icmp_ge 52 dX11_readsPendulum_31 rfl (fun q2 => s_aload_n dX11_readsPendulum_52 rfl (s_iload_n dX11_readsPendulum_53 rfl (s_iconst (-1) dX11_readsPendulum_54 (by decide) (s_icmp_eq 62 dX11_readsPendulum_55 rfl (fun q6 => s_iconst 0 dX11_readsPendulum_62 (by decide) (Vw.mask [true, true, false] (s_callV (As := [.int 0]) dX11_readsPendulum_63 rfl lvX11_192 ⟨Nat.le_of_ble_eq_true rfl, Nat.le_of_ble_eq_true rfl⟩ (hi.sh rfl rfl) ⟨_, _, by decide, rfl⟩ rfl (Nat.le_of_ble_eq_true rfl) (((K.1 q2).1 q6))))) (fun q6 => s_iconst 1 dX11_readsPendulum_58 (by decide) (s_goto 63 dX11_readsPendulum_59 rfl (Vw.mask [true, true, false] (s_callV (As := [.int 1]) dX11_readsPendulum_63 rfl lvX11_192 ⟨Nat.le_of_ble_eq_true rfl, Nat.le_of_ble_eq_true rfl⟩ (hi.sh rfl rfl) ⟨_, _, by decide, rfl⟩ rfl (Nat.le_of_ble_eq_true rfl) (((K.1 q2).2 q6)))))))))) (fun q2 => s_aload_n dX11_readsPendulum_34 rfl (s_iconst 0 dX11_readsPendulum_35 (by decide) (s_iload_n dX11_readsPendulum_36 rfl (s_iadd dX11_readsPendulum_37 (s_callV (As := [.int (0 + v2)]) dX11_readsPendulum_38 rfl lvX11_189 ⟨Nat.le_of_ble_eq_true rfl, Nat.le_of_ble_eq_true rfl⟩ (hi.sh rfl rfl) ⟨_, _, by decide, rfl⟩ rfl (Nat.le_of_ble_eq_true rfl) ((K.2 q2)))))))))
theorem bX11_readsPendulum_41 {G : GX} {h : mH} {Q : mO → mH → Prop} {v1 : Int32} {v2 : Int32} {vs0 : Int32} (hi : Iv h) (K : (vs0 = 0 → Vw G jX11_readsPendulum 46 [some (.ref 83), some (.int v1), some (.int v2)] [] h Q) ∧ (¬ vs0 = 0 → Vw G jX11_readsPendulum 46 [some (.ref 83), some (.int v2), some (.int v2)] [] h Q)) : Vw G jX11_readsPendulum 41 [some (.ref 83), some (.int v1), some (.int v2)] [.int vs0] h Q :=
  s_if_eq 46 dX11_readsPendulum_41 rfl (fun q0 => (K.1 q0)) (fun q0 => s_iload_n dX11_readsPendulum_44 rfl (s_istore_n dX11_readsPendulum_45 (Nat.le_of_ble_eq_true rfl) rfl ((K.2 q0))))
theorem bX11_readsPendulum_46 {G : GX} {h : mH} {Q : mO → mH → Prop} {v1 : Int32} {v2 : Int32} (hi : Iv h) (K : Vw G jX11_readsPendulum 29 [some (.ref 83), some (.int v1), some (.int (v2 + 1))] [] h Q) : Vw G jX11_readsPendulum 46 [some (.ref 83), some (.int v1), some (.int v2)] [] h Q :=
  s_iinc 1 dX11_readsPendulum_46 rfl (by decide) (Nat.le_of_ble_eq_true rfl) rfl (s_goto 29 dX11_readsPendulum_49 rfl (K))
theorem bX11_readsPendulum_66 {G : GX} {h : mH} {Q : mO → mH → Prop} {v1 : Int32} (hi : Iv h) (K : vp_in (gI h 83 21) 4 ∧ WM G jX11_number [.ref 83, .int 2, .int 40] (pI h 91 (Int32.toNatClampNeg (gI h 83 21)) v1) (Aft G jX11_readsPendulum 88 [some (.ref 83), none, none] [.int (gI (pI h 91 (Int32.toNatClampNeg (gI h 83 21)) v1) 83 21), .ref 92] Q)) : Vw G jX11_readsPendulum 66 [some (.ref 83), some (.int v1), none] [] h Q :=
  s_aload_n dX11_readsPendulum_66 rfl (s_getR (v := .ref 91) dX11_readsPendulum_67 flX11_35 rfl (hi.sh rfl rfl) (hi.rf (o := 83) (k := 24) (d := 8) rfl rfl) (s_aload_n dX11_readsPendulum_70 rfl (s_getI dX11_readsPendulum_71 flX11_186 (Or.inl rfl) (hi.sh rfl rfl) (s_iload_n dX11_readsPendulum_74 rfl (s_iastore dX11_readsPendulum_75 (hi.sh rfl rfl) K.1 (s_aload_n dX11_readsPendulum_76 rfl (s_getR (v := .ref 92) dX11_readsPendulum_77 flX11_38 rfl (hi.sh rfl rfl) (hi.rf (o := 83) (k := 25) (d := 9) rfl rfl) (s_aload_n dX11_readsPendulum_80 rfl (s_getI dX11_readsPendulum_81 flX11_186 (Or.inl rfl) (hi.sh rfl rfl) (s_aload_n dX11_readsPendulum_84 rfl (s_iconst 2 dX11_readsPendulum_85 (by decide) (s_bipush 40 dX11_readsPendulum_86 (by decide) (Vw.mask [true, false, false] (s_callV (As := [.int 2, .int 40]) dX11_readsPendulum_88 rfl lvX11_182 ⟨Nat.le_of_ble_eq_true rfl, Nat.le_of_ble_eq_true rfl⟩ (hi.sh rfl rfl) ⟨_, _, by decide, rfl⟩ rfl (Nat.le_of_ble_eq_true rfl) (K.2)))))))))))))))
theorem bX11_readsPendulum_91 {G : GX} {h : mH} {Q : mO → mH → Prop} {vs0 : Int32} {vs1 : Int32} (hi : Iv h) (K : vp_in vs1 4 ∧ WM G jX11_number [.ref 83, .int 0, .int 90] (pI h 92 (Int32.toNatClampNeg vs1) vs0) (Aft G jX11_readsPendulum 107 [some (.ref 83), none, none] [.int (8 + (gI (pI h 92 (Int32.toNatClampNeg vs1) vs0) 83 21)), .ref 94] Q)) : Vw G jX11_readsPendulum 91 [some (.ref 83), none, none] [.int vs0, .int vs1, .ref 92] h Q :=
  s_iastore dX11_readsPendulum_91 (hi.sh rfl rfl) K.1 (s_aload_n dX11_readsPendulum_92 rfl (s_getR (v := .ref 94) dX11_readsPendulum_93 flX11_44 rfl (hi.sh rfl rfl) (hi.rf (o := 83) (k := 27) (d := 11) rfl rfl) (s_bipush 8 dX11_readsPendulum_96 (by decide) (s_aload_n dX11_readsPendulum_98 rfl (s_getI dX11_readsPendulum_99 flX11_186 (Or.inl rfl) (hi.sh rfl rfl) (s_iadd dX11_readsPendulum_102 (s_aload_n dX11_readsPendulum_103 rfl (s_iconst 0 dX11_readsPendulum_104 (by decide) (s_bipush 90 dX11_readsPendulum_105 (by decide) (s_callV (As := [.int 0, .int 90]) dX11_readsPendulum_107 rfl lvX11_182 ⟨Nat.le_of_ble_eq_true rfl, Nat.le_of_ble_eq_true rfl⟩ (hi.sh rfl rfl) ⟨_, _, by decide, rfl⟩ rfl (Nat.le_of_ble_eq_true rfl) (K.2)))))))))))
theorem bX11_readsPendulum_110 {G : GX} {h : mH} {Q : mO → mH → Prop} {vs0 : Int32} {vs1 : Int32} (hi : Iv h) (K : vp_in vs1 12 ∧ WM G jX11_number [.ref 83, .int 0, .int 99] (pI h 94 (Int32.toNatClampNeg vs1) vs0) (Aft G jX11_readsPendulum 125 [some (.ref 83), none, none] [.int (4 + (gI (pI h 94 (Int32.toNatClampNeg vs1) vs0) 83 21)), .ref 94] Q)) : Vw G jX11_readsPendulum 110 [some (.ref 83), none, none] [.int vs0, .int vs1, .ref 94] h Q :=
  s_iastore dX11_readsPendulum_110 (hi.sh rfl rfl) K.1 (s_aload_n dX11_readsPendulum_111 rfl (s_getR (v := .ref 94) dX11_readsPendulum_112 flX11_44 rfl (hi.sh rfl rfl) (hi.rf (o := 83) (k := 27) (d := 11) rfl rfl) (s_iconst 4 dX11_readsPendulum_115 (by decide) (s_aload_n dX11_readsPendulum_116 rfl (s_getI dX11_readsPendulum_117 flX11_186 (Or.inl rfl) (hi.sh rfl rfl) (s_iadd dX11_readsPendulum_120 (s_aload_n dX11_readsPendulum_121 rfl (s_iconst 0 dX11_readsPendulum_122 (by decide) (s_bipush 99 dX11_readsPendulum_123 (by decide) (s_callV (As := [.int 0, .int 99]) dX11_readsPendulum_125 rfl lvX11_182 ⟨Nat.le_of_ble_eq_true rfl, Nat.le_of_ble_eq_true rfl⟩ (hi.sh rfl rfl) ⟨_, _, by decide, rfl⟩ rfl (Nat.le_of_ble_eq_true rfl) (K.2)))))))))))
theorem bX11_readsPendulum_128 {G : GX} {h : mH} {Q : mO → mH → Prop} {vs0 : Int32} {vs1 : Int32} (hi : Iv h) (K : vp_in vs1 12 ∧ WM G jX11_number [.ref 83, .int 0, .int 99] (pI h 94 (Int32.toNatClampNeg vs1) vs0) (Aft G jX11_readsPendulum 141 [some (.ref 83), none, none] [.int (gI (pI h 94 (Int32.toNatClampNeg vs1) vs0) 83 21), .ref 93] Q)) : Vw G jX11_readsPendulum 128 [some (.ref 83), none, none] [.int vs0, .int vs1, .ref 94] h Q :=
  s_iastore dX11_readsPendulum_128 (hi.sh rfl rfl) K.1 (s_aload_n dX11_readsPendulum_129 rfl (s_getR (v := .ref 93) dX11_readsPendulum_130 flX11_41 rfl (hi.sh rfl rfl) (hi.rf (o := 83) (k := 26) (d := 10) rfl rfl) (s_aload_n dX11_readsPendulum_133 rfl (s_getI dX11_readsPendulum_134 flX11_186 (Or.inl rfl) (hi.sh rfl rfl) (s_aload_n dX11_readsPendulum_137 rfl (s_iconst 0 dX11_readsPendulum_138 (by decide) (s_bipush 99 dX11_readsPendulum_139 (by decide) (s_callV (As := [.int 0, .int 99]) dX11_readsPendulum_141 rfl lvX11_182 ⟨Nat.le_of_ble_eq_true rfl, Nat.le_of_ble_eq_true rfl⟩ (hi.sh rfl rfl) ⟨_, _, by decide, rfl⟩ rfl (Nat.le_of_ble_eq_true rfl) (K.2)))))))))
theorem bX11_readsPendulum_144 {G : GX} {h : mH} {Q : mO → mH → Prop} {vs0 : Int32} {vs1 : Int32} (hi : Iv h) (K : vp_in vs1 4 ∧ (((fX11_isGood (pI h 93 (Int32.toNatClampNeg vs1) vs0)) = 0 → Q (.inl none) (pI h 93 (Int32.toNatClampNeg vs1) vs0)) ∧ (¬ (fX11_isGood (pI h 93 (Int32.toNatClampNeg vs1) vs0)) = 0 → Q (.inl none) (pI (pI h 93 (Int32.toNatClampNeg vs1) vs0) 83 21 ((gI (pI h 93 (Int32.toNatClampNeg vs1) vs0) 83 21) + 1))))) : Vw G jX11_readsPendulum 144 [some (.ref 83), none, none] [.int vs0, .int vs1, .ref 93] h Q :=
  s_iastore dX11_readsPendulum_144 (hi.sh rfl rfl) K.1 (s_aload_n dX11_readsPendulum_145 rfl (s_callV (As := []) dX11_readsPendulum_146 rfl lvX11_172 ⟨Nat.le_of_ble_eq_true rfl, Nat.le_of_ble_eq_true rfl⟩ (hi.sh rfl rfl) ⟨_, _, by decide, rfl⟩ rfl (Nat.le_of_ble_eq_true rfl) (mX11_isGood hi   (s_if_eq 162 dX11_readsPendulum_149 rfl (fun q3 => s_return dX11_readsPendulum_162 rfl (K.2.1 q3)) (fun q3 => s_aload_n dX11_readsPendulum_152 rfl (s_dupr dX11_readsPendulum_153 (s_getI dX11_readsPendulum_154 flX11_186 (Or.inl rfl) (hi.sh rfl rfl) (s_iconst 1 dX11_readsPendulum_157 (by decide) (s_iadd dX11_readsPendulum_158 (s_putI dX11_readsPendulum_159 flX11_186 ff10_21 rfl (hi.sh rfl rfl) (s_return dX11_readsPendulum_162 rfl (K.2.2 q3))))))))))))
theorem eX11_readsPendulum {G : GX} {h : mH} {Q : mO → mH → Prop} (hi : Iv h) (K : (¬ (gI h 83 21) = 4 → Vw G jX11_readsPendulum 13 [some (.ref 83), none, none] [] h Q) ∧ ((gI h 83 21) = 4 → WM G jX11_wrong [.ref 83, .int 2] h (Aft G jX11_readsPendulum 10 [some (.ref 83), none, none] [] Q))) : WM G jX11_readsPendulum [.ref 83] h Q :=
  WM.body (ls := [some (.ref 83), none, none]) rfl (by decide +kernel) rfl (Nat.le_of_ble_eq_true rfl) rfl ((bX11_readsPendulum_0 hi  K))
theorem dX11_line_0 : decode cX11_line 0 = .ok (.aload_n 0, 1) := by decide +kernel
theorem dX11_line_1 : decode cX11_line 1 = .ok (.iconst 3, 1) := by decide +kernel
theorem dX11_line_2 : decode cX11_line 2 = .ok (.invokevirtual 189, 3) := by decide +kernel
theorem dX11_line_5 : decode cX11_line 5 = .ok (.ifCond .eq 10, 3) := by decide +kernel
theorem dX11_line_8 : decode cX11_line 8 = .ok (.aload_n 0, 1) := by decide +kernel
theorem dX11_line_9 : decode cX11_line 9 = .ok (.invokevirtual 196, 3) := by decide +kernel
theorem dX11_line_12 : decode cX11_line 12 = .ok (.goto 184, 3) := by decide +kernel
theorem dX11_line_15 : decode cX11_line 15 = .ok (.aload_n 0, 1) := by decide +kernel
theorem dX11_line_16 : decode cX11_line 16 = .ok (.iconst 4, 1) := by decide +kernel
theorem dX11_line_17 : decode cX11_line 17 = .ok (.invokevirtual 189, 3) := by decide +kernel
theorem dX11_line_20 : decode cX11_line 20 = .ok (.ifCond .eq 105, 3) := by decide +kernel
theorem dX11_line_23 : decode cX11_line 23 = .ok (.aload_n 0, 1) := by decide +kernel
theorem dX11_line_24 : decode cX11_line 24 = .ok (.getfield 199, 3) := by decide +kernel
theorem dX11_line_27 : decode cX11_line 27 = .ok (.iconst 4, 1) := by decide +kernel
theorem dX11_line_28 : decode cX11_line 28 = .ok (.if_icmp .ne 8, 3) := by decide +kernel
theorem dX11_line_31 : decode cX11_line 31 = .ok (.aload_n 0, 1) := by decide +kernel
theorem dX11_line_32 : decode cX11_line 32 = .ok (.iconst 2, 1) := by decide +kernel
theorem dX11_line_33 : decode cX11_line 33 = .ok (.invokevirtual 179, 3) := by decide +kernel
theorem dX11_line_36 : decode cX11_line 36 = .ok (.aload_n 0, 1) := by decide +kernel
theorem dX11_line_37 : decode cX11_line 37 = .ok (.invokevirtual 172, 3) := by decide +kernel
theorem dX11_line_40 : decode cX11_line 40 = .ok (.ifCond .ne 4, 3) := by decide +kernel
theorem dX11_line_43 : decode cX11_line 43 = .ok (.return_, 1) := by decide +kernel
theorem dX11_line_44 : decode cX11_line 44 = .ok (.aload_n 0, 1) := by decide +kernel
theorem dX11_line_45 : decode cX11_line 45 = .ok (.invokevirtual 176, 3) := by decide +kernel
theorem dX11_line_48 : decode cX11_line 48 = .ok (.aload_n 0, 1) := by decide +kernel
theorem dX11_line_49 : decode cX11_line 49 = .ok (.getfield 47, 3) := by decide +kernel
theorem dX11_line_52 : decode cX11_line 52 = .ok (.iconst 3, 1) := by decide +kernel
theorem dX11_line_53 : decode cX11_line 53 = .ok (.aload_n 0, 1) := by decide +kernel
theorem dX11_line_54 : decode cX11_line 54 = .ok (.getfield 199, 3) := by decide +kernel
theorem dX11_line_57 : decode cX11_line 57 = .ok (.imul, 1) := by decide +kernel
theorem dX11_line_58 : decode cX11_line 58 = .ok (.aload_n 0, 1) := by decide +kernel
theorem dX11_line_59 : decode cX11_line 59 = .ok (.iconst 0, 1) := by decide +kernel
theorem dX11_line_60 : decode cX11_line 60 = .ok (.sipush 999, 3) := by decide +kernel
theorem dX11_line_63 : decode cX11_line 63 = .ok (.invokevirtual 182, 3) := by decide +kernel
theorem dX11_line_66 : decode cX11_line 66 = .ok (.iastore, 1) := by decide +kernel
theorem dX11_line_67 : decode cX11_line 67 = .ok (.aload_n 0, 1) := by decide +kernel
theorem dX11_line_68 : decode cX11_line 68 = .ok (.getfield 47, 3) := by decide +kernel
theorem dX11_line_71 : decode cX11_line 71 = .ok (.iconst 3, 1) := by decide +kernel
theorem dX11_line_72 : decode cX11_line 72 = .ok (.aload_n 0, 1) := by decide +kernel
theorem dX11_line_73 : decode cX11_line 73 = .ok (.getfield 199, 3) := by decide +kernel
theorem dX11_line_76 : decode cX11_line 76 = .ok (.imul, 1) := by decide +kernel
theorem dX11_line_77 : decode cX11_line 77 = .ok (.iconst 1, 1) := by decide +kernel
theorem dX11_line_78 : decode cX11_line 78 = .ok (.iadd, 1) := by decide +kernel
theorem dX11_line_79 : decode cX11_line 79 = .ok (.aload_n 0, 1) := by decide +kernel
theorem dX11_line_80 : decode cX11_line 80 = .ok (.bipush 20, 2) := by decide +kernel
theorem dX11_line_82 : decode cX11_line 82 = .ok (.invokevirtual 202, 3) := by decide +kernel
theorem dX11_line_85 : decode cX11_line 85 = .ok (.iastore, 1) := by decide +kernel
theorem dX11_line_86 : decode cX11_line 86 = .ok (.aload_n 0, 1) := by decide +kernel
theorem dX11_line_87 : decode cX11_line 87 = .ok (.getfield 47, 3) := by decide +kernel
theorem dX11_line_90 : decode cX11_line 90 = .ok (.iconst 3, 1) := by decide +kernel
theorem dX11_line_91 : decode cX11_line 91 = .ok (.aload_n 0, 1) := by decide +kernel
theorem dX11_line_92 : decode cX11_line 92 = .ok (.getfield 199, 3) := by decide +kernel
theorem dX11_line_95 : decode cX11_line 95 = .ok (.imul, 1) := by decide +kernel
theorem dX11_line_96 : decode cX11_line 96 = .ok (.iconst 2, 1) := by decide +kernel
theorem dX11_line_97 : decode cX11_line 97 = .ok (.iadd, 1) := by decide +kernel
theorem dX11_line_98 : decode cX11_line 98 = .ok (.aload_n 0, 1) := by decide +kernel
theorem dX11_line_99 : decode cX11_line 99 = .ok (.bipush 20, 2) := by decide +kernel
theorem dX11_line_101 : decode cX11_line 101 = .ok (.invokevirtual 202, 3) := by decide +kernel
theorem dX11_line_104 : decode cX11_line 104 = .ok (.iastore, 1) := by decide +kernel
theorem dX11_line_105 : decode cX11_line 105 = .ok (.aload_n 0, 1) := by decide +kernel
theorem dX11_line_106 : decode cX11_line 106 = .ok (.invokevirtual 172, 3) := by decide +kernel
theorem dX11_line_109 : decode cX11_line 109 = .ok (.ifCond .eq 87, 3) := by decide +kernel
theorem dX11_line_112 : decode cX11_line 112 = .ok (.aload_n 0, 1) := by decide +kernel
theorem dX11_line_113 : decode cX11_line 113 = .ok (.dup, 1) := by decide +kernel
theorem dX11_line_114 : decode cX11_line 114 = .ok (.getfield 199, 3) := by decide +kernel
theorem dX11_line_117 : decode cX11_line 117 = .ok (.iconst 1, 1) := by decide +kernel
theorem dX11_line_118 : decode cX11_line 118 = .ok (.iadd, 1) := by decide +kernel
theorem dX11_line_119 : decode cX11_line 119 = .ok (.putfield 199, 3) := by decide +kernel
theorem dX11_line_122 : decode cX11_line 122 = .ok (.goto 74, 3) := by decide +kernel
theorem dX11_line_125 : decode cX11_line 125 = .ok (.aload_n 0, 1) := by decide +kernel
theorem dX11_line_126 : decode cX11_line 126 = .ok (.iconst 5, 1) := by decide +kernel
theorem dX11_line_127 : decode cX11_line 127 = .ok (.invokevirtual 189, 3) := by decide +kernel
theorem dX11_line_130 : decode cX11_line 130 = .ok (.ifCond .eq 61, 3) := by decide +kernel
theorem dX11_line_133 : decode cX11_line 133 = .ok (.aload_n 0, 1) := by decide +kernel
theorem dX11_line_134 : decode cX11_line 134 = .ok (.getfield 205, 3) := by decide +kernel
theorem dX11_line_137 : decode cX11_line 137 = .ok (.ifCond .eq 8, 3) := by decide +kernel
theorem dX11_line_140 : decode cX11_line 140 = .ok (.aload_n 0, 1) := by decide +kernel
theorem dX11_line_141 : decode cX11_line 141 = .ok (.iconst 3, 1) := by decide +kernel
theorem dX11_line_142 : decode cX11_line 142 = .ok (.invokevirtual 179, 3) := by decide +kernel
theorem dX11_line_145 : decode cX11_line 145 = .ok (.aload_n 0, 1) := by decide +kernel
theorem dX11_line_146 : decode cX11_line 146 = .ok (.invokevirtual 172, 3) := by decide +kernel
theorem dX11_line_149 : decode cX11_line 149 = .ok (.ifCond .ne 4, 3) := by decide +kernel
theorem dX11_line_152 : decode cX11_line 152 = .ok (.return_, 1) := by decide +kernel
theorem dX11_line_153 : decode cX11_line 153 = .ok (.aload_n 0, 1) := by decide +kernel
theorem dX11_line_154 : decode cX11_line 154 = .ok (.iconst 1, 1) := by decide +kernel
theorem dX11_line_155 : decode cX11_line 155 = .ok (.putfield 205, 3) := by decide +kernel
theorem dX11_line_158 : decode cX11_line 158 = .ok (.aload_n 0, 1) := by decide +kernel
theorem dX11_line_159 : decode cX11_line 159 = .ok (.invokevirtual 176, 3) := by decide +kernel
theorem dX11_line_162 : decode cX11_line 162 = .ok (.iconst 0, 1) := by decide +kernel
theorem dX11_line_163 : decode cX11_line 163 = .ok (.istore_n 1, 1) := by decide +kernel
theorem dX11_line_164 : decode cX11_line 164 = .ok (.iload_n 1, 1) := by decide +kernel
theorem dX11_line_165 : decode cX11_line 165 = .ok (.iconst 4, 1) := by decide +kernel
theorem dX11_line_166 : decode cX11_line 166 = .ok (.if_icmp .ge 22, 3) := by decide +kernel
theorem dX11_line_169 : decode cX11_line 169 = .ok (.aload_n 0, 1) := by decide +kernel
theorem dX11_line_170 : decode cX11_line 170 = .ok (.getfield 44, 3) := by decide +kernel
theorem dX11_line_173 : decode cX11_line 173 = .ok (.iload_n 1, 1) := by decide +kernel
theorem dX11_line_174 : decode cX11_line 174 = .ok (.aload_n 0, 1) := by decide +kernel
theorem dX11_line_175 : decode cX11_line 175 = .ok (.iconst 0, 1) := by decide +kernel
theorem dX11_line_176 : decode cX11_line 176 = .ok (.bipush 9, 2) := by decide +kernel
theorem dX11_line_178 : decode cX11_line 178 = .ok (.invokevirtual 182, 3) := by decide +kernel
theorem dX11_line_181 : decode cX11_line 181 = .ok (.iastore, 1) := by decide +kernel
theorem dX11_line_182 : decode cX11_line 182 = .ok (.iinc 1 1, 3) := by decide +kernel
theorem dX11_line_185 : decode cX11_line 185 = .ok (.goto (-21), 3) := by decide +kernel
theorem dX11_line_188 : decode cX11_line 188 = .ok (.goto 8, 3) := by decide +kernel
theorem dX11_line_191 : decode cX11_line 191 = .ok (.aload_n 0, 1) := by decide +kernel
theorem dX11_line_192 : decode cX11_line 192 = .ok (.iconst 1, 1) := by decide +kernel
theorem dX11_line_193 : decode cX11_line 193 = .ok (.invokevirtual 179, 3) := by decide +kernel
theorem dX11_line_196 : decode cX11_line 196 = .ok (.aload_n 0, 1) := by decide +kernel
theorem dX11_line_197 : decode cX11_line 197 = .ok (.aload_n 0, 1) := by decide +kernel
theorem dX11_line_198 : decode cX11_line 198 = .ok (.getfield 146, 3) := by decide +kernel
theorem dX11_line_201 : decode cX11_line 201 = .ok (.iconst 3, 1) := by decide +kernel
theorem dX11_line_202 : decode cX11_line 202 = .ok (.if_icmp .ne 16, 3) := by decide +kernel
theorem dX11_line_205 : decode cX11_line 205 = .ok (.aload_n 0, 1) := by decide +kernel
theorem dX11_line_206 : decode cX11_line 206 = .ok (.getfield 143, 3) := by decide +kernel
theorem dX11_line_209 : decode cX11_line 209 = .ok (.bipush 59, 2) := by decide +kernel
theorem dX11_line_211 : decode cX11_line 211 = .ok (.if_icmp .ne 7, 3) := by decide +kernel
theorem dX11_line_214 : decode cX11_line 214 = .ok (.iconst 1, 1) := by decide +kernel
theorem dX11_line_215 : decode cX11_line 215 = .ok (.goto 4, 3) := by decide +kernel
theorem dX11_line_218 : decode cX11_line 218 = .ok (.iconst 0, 1) := by decide +kernel
theorem dX11_line_219 : decode cX11_line 219 = .ok (.invokevirtual 192, 3) := by decide +kernel
theorem dX11_line_222 : decode cX11_line 222 = .ok (.return_, 1) := by decide +kernel
theorem bX11_line_0 {G : GX} {h : mH} {Q : mO → mH → Prop} (hi : Iv h) (K : WM G jX11_is [.ref 83, .int 3] h (Aft G jX11_line 2 [some (.ref 83), none] [] Q)) : Vw G jX11_line 0 [some (.ref 83), none] [] h Q :=
  s_aload_n dX11_line_0 rfl (s_iconst 3 dX11_line_1 (by decide) (s_callV (As := [.int 3]) dX11_line_2 rfl lvX11_189 ⟨Nat.le_of_ble_eq_true rfl, Nat.le_of_ble_eq_true rfl⟩ (hi.sh rfl rfl) ⟨_, _, by decide, rfl⟩ rfl (Nat.le_of_ble_eq_true rfl) (K)))
theorem bX11_line_5 {G : GX} {h : mH} {Q : mO → mH → Prop} {vs0 : Int32} (hi : Iv h) (K : (vs0 = 0 → WM G jX11_is [.ref 83, .int 4] h (Aft G jX11_line 17 [some (.ref 83), none] [] Q)) ∧ (¬ vs0 = 0 → WM G jX11_readsPendulum [.ref 83] h (Aft G jX11_line 9 [some (.ref 83), none] [] Q))) : Vw G jX11_line 5 [some (.ref 83), none] [.int vs0] h Q :=
  s_if_eq 15 dX11_line_5 rfl (fun q0 => s_aload_n dX11_line_15 rfl (s_iconst 4 dX11_line_16 (by decide) (s_callV (As := [.int 4]) dX11_line_17 rfl lvX11_189 ⟨Nat.le_of_ble_eq_true rfl, Nat.le_of_ble_eq_true rfl⟩ (hi.sh rfl rfl) ⟨_, _, by decide, rfl⟩ rfl (Nat.le_of_ble_eq_true rfl) ((K.1 q0))))) (fun q0 => s_aload_n dX11_line_8 rfl (s_callV (As := []) dX11_line_9 rfl lvX11_196 ⟨Nat.le_of_ble_eq_true rfl, Nat.le_of_ble_eq_true rfl⟩ (hi.sh rfl rfl) ⟨_, _, by decide, rfl⟩ rfl (Nat.le_of_ble_eq_true rfl) ((K.2 q0))))
theorem bX11_line_12 {G : GX} {h : mH} {Q : mO → mH → Prop} (hi : Iv h) (K : Vw G jX11_line 196 [some (.ref 83), none] [] h Q) : Vw G jX11_line 12 [some (.ref 83), none] [] h Q :=
  s_goto 196 dX11_line_12 rfl (K)
theorem bX11_line_20 {G : GX} {h : mH} {Q : mO → mH → Prop} {vs0 : Int32} (hi : Iv h) (K : (vs0 = 0 → WM G jX11_is [.ref 83, .int 5] h (Aft G jX11_line 127 [some (.ref 83), none] [] Q)) ∧ (¬ vs0 = 0 → ((¬ (gI h 83 22) = 4 → Vw G jX11_line 36 [some (.ref 83), none] [] h Q) ∧ ((gI h 83 22) = 4 → WM G jX11_wrong [.ref 83, .int 2] h (Aft G jX11_line 33 [some (.ref 83), none] [] Q))))) : Vw G jX11_line 20 [some (.ref 83), none] [.int vs0] h Q :=
  s_if_eq 125 dX11_line_20 rfl (fun q0 => s_aload_n dX11_line_125 rfl (s_iconst 5 dX11_line_126 (by decide) (s_callV (As := [.int 5]) dX11_line_127 rfl lvX11_189 ⟨Nat.le_of_ble_eq_true rfl, Nat.le_of_ble_eq_true rfl⟩ (hi.sh rfl rfl) ⟨_, _, by decide, rfl⟩ rfl (Nat.le_of_ble_eq_true rfl) ((K.1 q0))))) (fun q0 => s_aload_n dX11_line_23 rfl (s_getI dX11_line_24 flX11_199 (Or.inl rfl) (hi.sh rfl rfl) (s_iconst 4 dX11_line_27 (by decide) (s_icmp_ne 36 dX11_line_28 rfl (fun q4 => ((K.2 q0).1 q4)) (fun q4 => s_aload_n dX11_line_31 rfl (s_iconst 2 dX11_line_32 (by decide) (s_callV (As := [.int 2]) dX11_line_33 rfl lvX11_179 ⟨Nat.le_of_ble_eq_true rfl, Nat.le_of_ble_eq_true rfl⟩ (hi.sh rfl rfl) ⟨_, _, by decide, rfl⟩ rfl (Nat.le_of_ble_eq_true rfl) (((K.2 q0).2 q4)))))))))
theorem bX11_line_36 {G : GX} {h : mH} {Q : mO → mH → Prop} (hi : Iv h) (K : (¬ (fX11_isGood h) = 0 → WM G jX11_steps [.ref 83] h (Aft G jX11_line 45 [some (.ref 83), none] [] Q)) ∧ ((fX11_isGood h) = 0 → Q (.inl none) h)) : Vw G jX11_line 36 [some (.ref 83), none] [] h Q :=
  s_aload_n dX11_line_36 rfl (s_callV (As := []) dX11_line_37 rfl lvX11_172 ⟨Nat.le_of_ble_eq_true rfl, Nat.le_of_ble_eq_true rfl⟩ (hi.sh rfl rfl) ⟨_, _, by decide, rfl⟩ rfl (Nat.le_of_ble_eq_true rfl) (mX11_isGood hi   (s_if_ne 44 dX11_line_40 rfl (fun q2 => s_aload_n dX11_line_44 rfl (s_callV (As := []) dX11_line_45 rfl lvX11_176 ⟨Nat.le_of_ble_eq_true rfl, Nat.le_of_ble_eq_true rfl⟩ (hi.sh rfl rfl) ⟨_, _, by decide, rfl⟩ rfl (Nat.le_of_ble_eq_true rfl) ((K.1 q2)))) (fun q2 => s_return dX11_line_43 rfl (K.2 q2)))))
theorem bX11_line_48 {G : GX} {h : mH} {Q : mO → mH → Prop} (hi : Iv h) (K : WM G jX11_number [.ref 83, .int 0, .int 999] h (Aft G jX11_line 63 [some (.ref 83), none] [.int (3 * (gI h 83 22)), .ref 95] Q)) : Vw G jX11_line 48 [some (.ref 83), none] [] h Q :=
  s_aload_n dX11_line_48 rfl (s_getR (v := .ref 95) dX11_line_49 flX11_47 rfl (hi.sh rfl rfl) (hi.rf (o := 83) (k := 28) (d := 12) rfl rfl) (s_iconst 3 dX11_line_52 (by decide) (s_aload_n dX11_line_53 rfl (s_getI dX11_line_54 flX11_199 (Or.inl rfl) (hi.sh rfl rfl) (s_imul dX11_line_57 (s_aload_n dX11_line_58 rfl (s_iconst 0 dX11_line_59 (by decide) (s_sipush 999 dX11_line_60 (by decide) (s_callV (As := [.int 0, .int 999]) dX11_line_63 rfl lvX11_182 ⟨Nat.le_of_ble_eq_true rfl, Nat.le_of_ble_eq_true rfl⟩ (hi.sh rfl rfl) ⟨_, _, by decide, rfl⟩ rfl (Nat.le_of_ble_eq_true rfl) (K))))))))))
theorem bX11_line_66 {G : GX} {h : mH} {Q : mO → mH → Prop} {vs0 : Int32} {vs1 : Int32} (hi : Iv h) (K : vp_in vs1 12 ∧ WM G jX11_signed [.ref 83, .int 20] (pI h 95 (Int32.toNatClampNeg vs1) vs0) (Aft G jX11_line 82 [some (.ref 83), none] [.int ((3 * (gI (pI h 95 (Int32.toNatClampNeg vs1) vs0) 83 22)) + 1), .ref 95] Q)) : Vw G jX11_line 66 [some (.ref 83), none] [.int vs0, .int vs1, .ref 95] h Q :=
  s_iastore dX11_line_66 (hi.sh rfl rfl) K.1 (s_aload_n dX11_line_67 rfl (s_getR (v := .ref 95) dX11_line_68 flX11_47 rfl (hi.sh rfl rfl) (hi.rf (o := 83) (k := 28) (d := 12) rfl rfl) (s_iconst 3 dX11_line_71 (by decide) (s_aload_n dX11_line_72 rfl (s_getI dX11_line_73 flX11_199 (Or.inl rfl) (hi.sh rfl rfl) (s_imul dX11_line_76 (s_iconst 1 dX11_line_77 (by decide) (s_iadd dX11_line_78 (s_aload_n dX11_line_79 rfl (s_bipush 20 dX11_line_80 (by decide) (s_callV (As := [.int 20]) dX11_line_82 rfl lvX11_202 ⟨Nat.le_of_ble_eq_true rfl, Nat.le_of_ble_eq_true rfl⟩ (hi.sh rfl rfl) ⟨_, _, by decide, rfl⟩ rfl (Nat.le_of_ble_eq_true rfl) (K.2))))))))))))
theorem bX11_line_85 {G : GX} {h : mH} {Q : mO → mH → Prop} {vs0 : Int32} {vs1 : Int32} (hi : Iv h) (K : vp_in vs1 12 ∧ WM G jX11_signed [.ref 83, .int 20] (pI h 95 (Int32.toNatClampNeg vs1) vs0) (Aft G jX11_line 101 [some (.ref 83), none] [.int ((3 * (gI (pI h 95 (Int32.toNatClampNeg vs1) vs0) 83 22)) + 2), .ref 95] Q)) : Vw G jX11_line 85 [some (.ref 83), none] [.int vs0, .int vs1, .ref 95] h Q :=
  s_iastore dX11_line_85 (hi.sh rfl rfl) K.1 (s_aload_n dX11_line_86 rfl (s_getR (v := .ref 95) dX11_line_87 flX11_47 rfl (hi.sh rfl rfl) (hi.rf (o := 83) (k := 28) (d := 12) rfl rfl) (s_iconst 3 dX11_line_90 (by decide) (s_aload_n dX11_line_91 rfl (s_getI dX11_line_92 flX11_199 (Or.inl rfl) (hi.sh rfl rfl) (s_imul dX11_line_95 (s_iconst 2 dX11_line_96 (by decide) (s_iadd dX11_line_97 (s_aload_n dX11_line_98 rfl (s_bipush 20 dX11_line_99 (by decide) (s_callV (As := [.int 20]) dX11_line_101 rfl lvX11_202 ⟨Nat.le_of_ble_eq_true rfl, Nat.le_of_ble_eq_true rfl⟩ (hi.sh rfl rfl) ⟨_, _, by decide, rfl⟩ rfl (Nat.le_of_ble_eq_true rfl) (K.2))))))))))))
theorem bX11_line_104 {G : GX} {h : mH} {Q : mO → mH → Prop} {vs0 : Int32} {vs1 : Int32} (hi : Iv h) (K : vp_in vs1 12 ∧ (((fX11_isGood (pI h 95 (Int32.toNatClampNeg vs1) vs0)) = 0 → Vw G jX11_line 196 [some (.ref 83), none] [] (pI h 95 (Int32.toNatClampNeg vs1) vs0) Q) ∧ (¬ (fX11_isGood (pI h 95 (Int32.toNatClampNeg vs1) vs0)) = 0 → Vw G jX11_line 196 [some (.ref 83), none] [] (pI (pI h 95 (Int32.toNatClampNeg vs1) vs0) 83 22 ((gI (pI h 95 (Int32.toNatClampNeg vs1) vs0) 83 22) + 1)) Q))) : Vw G jX11_line 104 [some (.ref 83), none] [.int vs0, .int vs1, .ref 95] h Q :=
  s_iastore dX11_line_104 (hi.sh rfl rfl) K.1 (s_aload_n dX11_line_105 rfl (s_callV (As := []) dX11_line_106 rfl lvX11_172 ⟨Nat.le_of_ble_eq_true rfl, Nat.le_of_ble_eq_true rfl⟩ (hi.sh rfl rfl) ⟨_, _, by decide, rfl⟩ rfl (Nat.le_of_ble_eq_true rfl) (mX11_isGood hi   (s_if_eq 196 dX11_line_109 rfl (fun q3 => (K.2.1 q3)) (fun q3 => s_aload_n dX11_line_112 rfl (s_dupr dX11_line_113 (s_getI dX11_line_114 flX11_199 (Or.inl rfl) (hi.sh rfl rfl) (s_iconst 1 dX11_line_117 (by decide) (s_iadd dX11_line_118 (s_putI dX11_line_119 flX11_199 ff10_22 rfl (hi.sh rfl rfl) (s_goto 196 dX11_line_122 rfl ((K.2.2 q3)))))))))))))
theorem bX11_line_130 {G : GX} {h : mH} {Q : mO → mH → Prop} {vs0 : Int32} (hi : Iv h) (K : (vs0 = 0 → WM G jX11_wrong [.ref 83, .int 1] h (Aft G jX11_line 193 [some (.ref 83), none] [] Q)) ∧ (¬ vs0 = 0 → (((gI h 83 23) = 0 → Vw G jX11_line 145 [some (.ref 83), none] [] h Q) ∧ (¬ (gI h 83 23) = 0 → WM G jX11_wrong [.ref 83, .int 3] h (Aft G jX11_line 142 [some (.ref 83), none] [] Q))))) : Vw G jX11_line 130 [some (.ref 83), none] [.int vs0] h Q :=
  s_if_eq 191 dX11_line_130 rfl (fun q0 => s_aload_n dX11_line_191 rfl (s_iconst 1 dX11_line_192 (by decide) (s_callV (As := [.int 1]) dX11_line_193 rfl lvX11_179 ⟨Nat.le_of_ble_eq_true rfl, Nat.le_of_ble_eq_true rfl⟩ (hi.sh rfl rfl) ⟨_, _, by decide, rfl⟩ rfl (Nat.le_of_ble_eq_true rfl) ((K.1 q0))))) (fun q0 => s_aload_n dX11_line_133 rfl (s_getI dX11_line_134 flX11_205 (Or.inr rfl) (hi.sh rfl rfl) (s_if_eq 145 dX11_line_137 rfl (fun q3 => ((K.2 q0).1 q3)) (fun q3 => s_aload_n dX11_line_140 rfl (s_iconst 3 dX11_line_141 (by decide) (s_callV (As := [.int 3]) dX11_line_142 rfl lvX11_179 ⟨Nat.le_of_ble_eq_true rfl, Nat.le_of_ble_eq_true rfl⟩ (hi.sh rfl rfl) ⟨_, _, by decide, rfl⟩ rfl (Nat.le_of_ble_eq_true rfl) (((K.2 q0).2 q3))))))))
theorem bX11_line_145 {G : GX} {h : mH} {Q : mO → mH → Prop} (hi : Iv h) (K : (¬ (fX11_isGood h) = 0 → WM G jX11_steps [.ref 83] (pI h 83 23 1) (Aft G jX11_line 159 [some (.ref 83), none] [] Q)) ∧ ((fX11_isGood h) = 0 → Q (.inl none) h)) : Vw G jX11_line 145 [some (.ref 83), none] [] h Q :=
  s_aload_n dX11_line_145 rfl (s_callV (As := []) dX11_line_146 rfl lvX11_172 ⟨Nat.le_of_ble_eq_true rfl, Nat.le_of_ble_eq_true rfl⟩ (hi.sh rfl rfl) ⟨_, _, by decide, rfl⟩ rfl (Nat.le_of_ble_eq_true rfl) (mX11_isGood hi   (s_if_ne 153 dX11_line_149 rfl (fun q2 => s_aload_n dX11_line_153 rfl (s_iconst 1 dX11_line_154 (by decide) (s_putZ dX11_line_155 flX11_205 ff10_23 rfl (hi.sh rfl rfl) (by decide) (s_aload_n dX11_line_158 rfl (s_callV (As := []) dX11_line_159 rfl lvX11_176 ⟨Nat.le_of_ble_eq_true rfl, Nat.le_of_ble_eq_true rfl⟩ (hi.sh rfl rfl) ⟨_, _, by decide, rfl⟩ rfl (Nat.le_of_ble_eq_true rfl) ((K.1 q2))))))) (fun q2 => s_return dX11_line_152 rfl (K.2 q2)))))
theorem bX11_line_162 {G : GX} {h : mH} {Q : mO → mH → Prop} (hi : Iv h) (K : Vw G jX11_line 164 [some (.ref 83), some (.int 0)] [] h Q) : Vw G jX11_line 162 [some (.ref 83), none] [] h Q :=
  s_iconst 0 dX11_line_162 (by decide) (s_istore_n dX11_line_163 (Nat.le_of_ble_eq_true rfl) rfl (K))
theorem bX11_line_164 {G : GX} {h : mH} {Q : mO → mH → Prop} {v1 : Int32} (hi : Iv h) (K : (4 ≤ v1 → Vw G jX11_line 196 [some (.ref 83), none] [] h Q) ∧ (¬ 4 ≤ v1 → WM G jX11_number [.ref 83, .int 0, .int 9] h (Aft G jX11_line 178 [some (.ref 83), some (.int v1)] [.int v1, .ref 94] Q))) : Vw G jX11_line 164 [some (.ref 83), some (.int v1)] [] h Q :=
  s_iload_n dX11_line_164 rfl (s_iconst 4 dX11_line_165 (by decide) (s_icmp_ge 188 dX11_line_166 rfl (fun q2 => s_goto 196 dX11_line_188 rfl (Vw.mask [true, false] ((K.1 q2)))) (fun q2 => s_aload_n dX11_line_169 rfl (s_getR (v := .ref 94) dX11_line_170 flX11_44 rfl (hi.sh rfl rfl) (hi.rf (o := 83) (k := 27) (d := 11) rfl rfl) (s_iload_n dX11_line_173 rfl (s_aload_n dX11_line_174 rfl (s_iconst 0 dX11_line_175 (by decide) (s_bipush 9 dX11_line_176 (by decide) (s_callV (As := [.int 0, .int 9]) dX11_line_178 rfl lvX11_182 ⟨Nat.le_of_ble_eq_true rfl, Nat.le_of_ble_eq_true rfl⟩ (hi.sh rfl rfl) ⟨_, _, by decide, rfl⟩ rfl (Nat.le_of_ble_eq_true rfl) ((K.2 q2)))))))))))
theorem bX11_line_181 {G : GX} {h : mH} {Q : mO → mH → Prop} {v1 : Int32} {vs0 : Int32} {vs1 : Int32} (hi : Iv h) (K : vp_in vs1 12 ∧ Vw G jX11_line 164 [some (.ref 83), some (.int (v1 + 1))] [] (pI h 94 (Int32.toNatClampNeg vs1) vs0) Q) : Vw G jX11_line 181 [some (.ref 83), some (.int v1)] [.int vs0, .int vs1, .ref 94] h Q :=
  s_iastore dX11_line_181 (hi.sh rfl rfl) K.1 (s_iinc 1 dX11_line_182 rfl (by decide) (Nat.le_of_ble_eq_true rfl) rfl (s_goto 164 dX11_line_185 rfl (K.2)))
theorem bX11_line_196 {G : GX} {h : mH} {Q : mO → mH → Prop} (hi : Iv h) (K : (¬ (gI h 83 15) = 3 → WM G jX11_need [.ref 83, .int 0] h (Aft G jX11_line 219 [none, none] [] Q)) ∧ ((gI h 83 15) = 3 → ((¬ (gI h 83 19) = 59 → WM G jX11_need [.ref 83, .int 0] h (Aft G jX11_line 219 [none, none] [] Q)) ∧ ((gI h 83 19) = 59 → WM G jX11_need [.ref 83, .int 1] h (Aft G jX11_line 219 [none, none] [] Q))))) : Vw G jX11_line 196 [some (.ref 83), none] [] h Q :=
  s_aload_n dX11_line_196 rfl (s_aload_n dX11_line_197 rfl (s_getI dX11_line_198 flX11_146 (Or.inl rfl) (hi.sh rfl rfl) (s_iconst 3 dX11_line_201 (by decide) (s_icmp_ne 218 dX11_line_202 rfl (fun q4 => s_iconst 0 dX11_line_218 (by decide) (Vw.mask [false, false] (s_callV (As := [.int 0]) dX11_line_219 rfl lvX11_192 ⟨Nat.le_of_ble_eq_true rfl, Nat.le_of_ble_eq_true rfl⟩ (hi.sh rfl rfl) ⟨_, _, by decide, rfl⟩ rfl (Nat.le_of_ble_eq_true rfl) ((K.1 q4))))) (fun q4 => s_aload_n dX11_line_205 rfl (s_getI dX11_line_206 flX11_143 (Or.inl rfl) (hi.sh rfl rfl) (s_bipush 59 dX11_line_209 (by decide) (s_icmp_ne 218 dX11_line_211 rfl (fun q8 => s_iconst 0 dX11_line_218 (by decide) (Vw.mask [false, false] (s_callV (As := [.int 0]) dX11_line_219 rfl lvX11_192 ⟨Nat.le_of_ble_eq_true rfl, Nat.le_of_ble_eq_true rfl⟩ (hi.sh rfl rfl) ⟨_, _, by decide, rfl⟩ rfl (Nat.le_of_ble_eq_true rfl) (((K.2 q4).1 q8))))) (fun q8 => s_iconst 1 dX11_line_214 (by decide) (s_goto 219 dX11_line_215 rfl (Vw.mask [false, false] (s_callV (As := [.int 1]) dX11_line_219 rfl lvX11_192 ⟨Nat.le_of_ble_eq_true rfl, Nat.le_of_ble_eq_true rfl⟩ (hi.sh rfl rfl) ⟨_, _, by decide, rfl⟩ rfl (Nat.le_of_ble_eq_true rfl) (((K.2 q4).2 q8))))))))))))))
theorem bX11_line_222 {G : GX} {h : mH} {Q : mO → mH → Prop} (hi : Iv h) (K : Q (.inl none) h) : Vw G jX11_line 222 [none, none] [] h Q :=
  s_return dX11_line_222 rfl K
theorem eX11_line {G : GX} {h : mH} {Q : mO → mH → Prop} (hi : Iv h) (K : WM G jX11_is [.ref 83, .int 3] h (Aft G jX11_line 2 [some (.ref 83), none] [] Q)) : WM G jX11_line [.ref 83] h Q :=
  WM.body (ls := [some (.ref 83), none]) rfl (by decide +kernel) rfl (Nat.le_of_ble_eq_true rfl) rfl ((bX11_line_0 hi  K))
theorem dX11_swings_0 : decode cX11_swings 0 = .ok (.aload_n 0, 1) := by decide +kernel
theorem dX11_swings_1 : decode cX11_swings 1 = .ok (.iconst 0, 1) := by decide +kernel
theorem dX11_swings_2 : decode cX11_swings 2 = .ok (.putfield 113, 3) := by decide +kernel
theorem dX11_swings_5 : decode cX11_swings 5 = .ok (.aload_n 0, 1) := by decide +kernel
theorem dX11_swings_6 : decode cX11_swings 6 = .ok (.iload_n 1, 1) := by decide +kernel
theorem dX11_swings_7 : decode cX11_swings 7 = .ok (.ifCond .lt 15, 3) := by decide +kernel
theorem dX11_swings_10 : decode cX11_swings 10 = .ok (.iload_n 1, 1) := by decide +kernel
theorem dX11_swings_11 : decode cX11_swings 11 = .ok (.aload_n 0, 1) := by decide +kernel
theorem dX11_swings_12 : decode cX11_swings 12 = .ok (.getfield 116, 3) := by decide +kernel
theorem dX11_swings_15 : decode cX11_swings 15 = .ok (.if_icmp .gt 7, 3) := by decide +kernel
theorem dX11_swings_18 : decode cX11_swings 18 = .ok (.iconst 1, 1) := by decide +kernel
theorem dX11_swings_19 : decode cX11_swings 19 = .ok (.goto 4, 3) := by decide +kernel
theorem dX11_swings_22 : decode cX11_swings 22 = .ok (.iconst 0, 1) := by decide +kernel
theorem dX11_swings_23 : decode cX11_swings 23 = .ok (.iconst 1, 1) := by decide +kernel
theorem dX11_swings_24 : decode cX11_swings 24 = .ok (.invokevirtual 209, 3) := by decide +kernel
theorem dX11_swings_27 : decode cX11_swings 27 = .ok (.ifCond .ne 5, 3) := by decide +kernel
theorem dX11_swings_30 : decode cX11_swings 30 = .ok (.iconst 0, 1) := by decide +kernel
theorem dX11_swings_31 : decode cX11_swings 31 = .ok (.ireturn, 1) := by decide +kernel
theorem dX11_swings_32 : decode cX11_swings 32 = .ok (.aload_n 0, 1) := by decide +kernel
theorem dX11_swings_33 : decode cX11_swings 33 = .ok (.iconst 0, 1) := by decide +kernel
theorem dX11_swings_34 : decode cX11_swings 34 = .ok (.putfield 116, 3) := by decide +kernel
theorem dX11_swings_37 : decode cX11_swings 37 = .ok (.aload_n 0, 1) := by decide +kernel
theorem dX11_swings_38 : decode cX11_swings 38 = .ok (.iconst (-1), 1) := by decide +kernel
theorem dX11_swings_39 : decode cX11_swings 39 = .ok (.putfield 28, 3) := by decide +kernel
theorem dX11_swings_42 : decode cX11_swings 42 = .ok (.aload_n 0, 1) := by decide +kernel
theorem dX11_swings_43 : decode cX11_swings 43 = .ok (.iconst 0, 1) := by decide +kernel
theorem dX11_swings_44 : decode cX11_swings 44 = .ok (.putfield 169, 3) := by decide +kernel
theorem dX11_swings_47 : decode cX11_swings 47 = .ok (.aload_n 0, 1) := by decide +kernel
theorem dX11_swings_48 : decode cX11_swings 48 = .ok (.iload_n 1, 1) := by decide +kernel
theorem dX11_swings_49 : decode cX11_swings 49 = .ok (.putfield 123, 3) := by decide +kernel
theorem dX11_swings_52 : decode cX11_swings 52 = .ok (.aload_n 0, 1) := by decide +kernel
theorem dX11_swings_53 : decode cX11_swings 53 = .ok (.iconst 0, 1) := by decide +kernel
theorem dX11_swings_54 : decode cX11_swings 54 = .ok (.putfield 126, 3) := by decide +kernel
theorem dX11_swings_57 : decode cX11_swings 57 = .ok (.aload_n 0, 1) := by decide +kernel
theorem dX11_swings_58 : decode cX11_swings 58 = .ok (.iconst 0, 1) := by decide +kernel
theorem dX11_swings_59 : decode cX11_swings 59 = .ok (.putfield 186, 3) := by decide +kernel
theorem dX11_swings_62 : decode cX11_swings 62 = .ok (.aload_n 0, 1) := by decide +kernel
theorem dX11_swings_63 : decode cX11_swings 63 = .ok (.iconst 0, 1) := by decide +kernel
theorem dX11_swings_64 : decode cX11_swings 64 = .ok (.putfield 199, 3) := by decide +kernel
theorem dX11_swings_67 : decode cX11_swings 67 = .ok (.aload_n 0, 1) := by decide +kernel
theorem dX11_swings_68 : decode cX11_swings 68 = .ok (.iconst 0, 1) := by decide +kernel
theorem dX11_swings_69 : decode cX11_swings 69 = .ok (.putfield 205, 3) := by decide +kernel
theorem dX11_swings_72 : decode cX11_swings 72 = .ok (.iconst 0, 1) := by decide +kernel
theorem dX11_swings_73 : decode cX11_swings 73 = .ok (.istore_n 2, 1) := by decide +kernel
theorem dX11_swings_74 : decode cX11_swings 74 = .ok (.iload_n 2, 1) := by decide +kernel
theorem dX11_swings_75 : decode cX11_swings 75 = .ok (.bipush 12, 2) := by decide +kernel
theorem dX11_swings_77 : decode cX11_swings 77 = .ok (.if_icmp .ge 16, 3) := by decide +kernel
theorem dX11_swings_80 : decode cX11_swings 80 = .ok (.aload_n 0, 1) := by decide +kernel
theorem dX11_swings_81 : decode cX11_swings 81 = .ok (.getfield 44, 3) := by decide +kernel
theorem dX11_swings_84 : decode cX11_swings 84 = .ok (.iload_n 2, 1) := by decide +kernel
theorem dX11_swings_85 : decode cX11_swings 85 = .ok (.iconst 0, 1) := by decide +kernel
theorem dX11_swings_86 : decode cX11_swings 86 = .ok (.iastore, 1) := by decide +kernel
theorem dX11_swings_87 : decode cX11_swings 87 = .ok (.iinc 2 1, 3) := by decide +kernel
theorem dX11_swings_90 : decode cX11_swings 90 = .ok (.goto (-16), 3) := by decide +kernel
theorem dX11_swings_93 : decode cX11_swings 93 = .ok (.iconst 0, 1) := by decide +kernel
theorem dX11_swings_94 : decode cX11_swings 94 = .ok (.istore_n 2, 1) := by decide +kernel
theorem dX11_swings_95 : decode cX11_swings 95 = .ok (.iload_n 2, 1) := by decide +kernel
theorem dX11_swings_96 : decode cX11_swings 96 = .ok (.iconst 4, 1) := by decide +kernel
theorem dX11_swings_97 : decode cX11_swings 97 = .ok (.if_icmp .ge 30, 3) := by decide +kernel
theorem dX11_swings_100 : decode cX11_swings 100 = .ok (.aload_n 0, 1) := by decide +kernel
theorem dX11_swings_101 : decode cX11_swings 101 = .ok (.getfield 35, 3) := by decide +kernel
theorem dX11_swings_104 : decode cX11_swings 104 = .ok (.iload_n 2, 1) := by decide +kernel
theorem dX11_swings_105 : decode cX11_swings 105 = .ok (.iconst 0, 1) := by decide +kernel
theorem dX11_swings_106 : decode cX11_swings 106 = .ok (.iastore, 1) := by decide +kernel
theorem dX11_swings_107 : decode cX11_swings 107 = .ok (.aload_n 0, 1) := by decide +kernel
theorem dX11_swings_108 : decode cX11_swings 108 = .ok (.getfield 38, 3) := by decide +kernel
theorem dX11_swings_111 : decode cX11_swings 111 = .ok (.iload_n 2, 1) := by decide +kernel
theorem dX11_swings_112 : decode cX11_swings 112 = .ok (.iconst 2, 1) := by decide +kernel
theorem dX11_swings_113 : decode cX11_swings 113 = .ok (.iastore, 1) := by decide +kernel
theorem dX11_swings_114 : decode cX11_swings 114 = .ok (.aload_n 0, 1) := by decide +kernel
theorem dX11_swings_115 : decode cX11_swings 115 = .ok (.getfield 41, 3) := by decide +kernel
theorem dX11_swings_118 : decode cX11_swings 118 = .ok (.iload_n 2, 1) := by decide +kernel
theorem dX11_swings_119 : decode cX11_swings 119 = .ok (.iconst 0, 1) := by decide +kernel
theorem dX11_swings_120 : decode cX11_swings 120 = .ok (.iastore, 1) := by decide +kernel
theorem dX11_swings_121 : decode cX11_swings 121 = .ok (.iinc 2 1, 3) := by decide +kernel
theorem dX11_swings_124 : decode cX11_swings 124 = .ok (.goto (-29), 3) := by decide +kernel
theorem dX11_swings_127 : decode cX11_swings 127 = .ok (.aload_n 0, 1) := by decide +kernel
theorem dX11_swings_128 : decode cX11_swings 128 = .ok (.invokevirtual 176, 3) := by decide +kernel
theorem dX11_swings_131 : decode cX11_swings 131 = .ok (.aload_n 0, 1) := by decide +kernel
theorem dX11_swings_132 : decode cX11_swings 132 = .ok (.invokevirtual 172, 3) := by decide +kernel
theorem dX11_swings_135 : decode cX11_swings 135 = .ok (.ifCond .eq 17, 3) := by decide +kernel
theorem dX11_swings_138 : decode cX11_swings 138 = .ok (.aload_n 0, 1) := by decide +kernel
theorem dX11_swings_139 : decode cX11_swings 139 = .ok (.getfield 146, 3) := by decide +kernel
theorem dX11_swings_142 : decode cX11_swings 142 = .ok (.ifCond .eq 10, 3) := by decide +kernel
theorem dX11_swings_145 : decode cX11_swings 145 = .ok (.aload_n 0, 1) := by decide +kernel
theorem dX11_swings_146 : decode cX11_swings 146 = .ok (.invokevirtual 213, 3) := by decide +kernel
theorem dX11_swings_149 : decode cX11_swings 149 = .ok (.goto (-18), 3) := by decide +kernel
theorem dX11_swings_152 : decode cX11_swings 152 = .ok (.aload_n 0, 1) := by decide +kernel
theorem dX11_swings_153 : decode cX11_swings 153 = .ok (.invokevirtual 172, 3) := by decide +kernel
theorem dX11_swings_156 : decode cX11_swings 156 = .ok (.ifCond .ne 18, 3) := by decide +kernel
theorem dX11_swings_159 : decode cX11_swings 159 = .ok (.aload_n 0, 1) := by decide +kernel
theorem dX11_swings_160 : decode cX11_swings 160 = .ok (.getfield 32, 3) := by decide +kernel
theorem dX11_swings_163 : decode cX11_swings 163 = .ok (.iconst 0, 1) := by decide +kernel
theorem dX11_swings_164 : decode cX11_swings 164 = .ok (.dup2, 1) := by decide +kernel
theorem dX11_swings_165 : decode cX11_swings 165 = .ok (.iaload, 1) := by decide +kernel
theorem dX11_swings_166 : decode cX11_swings 166 = .ok (.iconst 1, 1) := by decide +kernel
theorem dX11_swings_167 : decode cX11_swings 167 = .ok (.iadd, 1) := by decide +kernel
theorem dX11_swings_168 : decode cX11_swings 168 = .ok (.iastore, 1) := by decide +kernel
theorem dX11_swings_169 : decode cX11_swings 169 = .ok (.aload_n 0, 1) := by decide +kernel
theorem dX11_swings_170 : decode cX11_swings 170 = .ok (.getfield 169, 3) := by decide +kernel
theorem dX11_swings_173 : decode cX11_swings 173 = .ok (.ireturn, 1) := by decide +kernel
theorem dX11_swings_174 : decode cX11_swings 174 = .ok (.aload_n 0, 1) := by decide +kernel
theorem dX11_swings_175 : decode cX11_swings 175 = .ok (.aload_n 0, 1) := by decide +kernel
theorem dX11_swings_176 : decode cX11_swings 176 = .ok (.getfield 186, 3) := by decide +kernel
theorem dX11_swings_179 : decode cX11_swings 179 = .ok (.putfield 216, 3) := by decide +kernel
theorem dX11_swings_182 : decode cX11_swings 182 = .ok (.aload_n 0, 1) := by decide +kernel
theorem dX11_swings_183 : decode cX11_swings 183 = .ok (.aload_n 0, 1) := by decide +kernel
theorem dX11_swings_184 : decode cX11_swings 184 = .ok (.getfield 199, 3) := by decide +kernel
theorem dX11_swings_187 : decode cX11_swings 187 = .ok (.putfield 219, 3) := by decide +kernel
theorem dX11_swings_190 : decode cX11_swings 190 = .ok (.aload_n 0, 1) := by decide +kernel
theorem dX11_swings_191 : decode cX11_swings 191 = .ok (.aload_n 0, 1) := by decide +kernel
theorem dX11_swings_192 : decode cX11_swings 192 = .ok (.getfield 35, 3) := by decide +kernel
theorem dX11_swings_195 : decode cX11_swings 195 = .ok (.aload_n 0, 1) := by decide +kernel
theorem dX11_swings_196 : decode cX11_swings 196 = .ok (.getfield 7, 3) := by decide +kernel
theorem dX11_swings_199 : decode cX11_swings 199 = .ok (.invokevirtual 222, 3) := by decide +kernel
theorem dX11_swings_202 : decode cX11_swings 202 = .ok (.aload_n 0, 1) := by decide +kernel
theorem dX11_swings_203 : decode cX11_swings 203 = .ok (.aload_n 0, 1) := by decide +kernel
theorem dX11_swings_204 : decode cX11_swings 204 = .ok (.getfield 38, 3) := by decide +kernel
theorem dX11_swings_207 : decode cX11_swings 207 = .ok (.aload_n 0, 1) := by decide +kernel
theorem dX11_swings_208 : decode cX11_swings 208 = .ok (.getfield 13, 3) := by decide +kernel
theorem dX11_swings_211 : decode cX11_swings 211 = .ok (.invokevirtual 222, 3) := by decide +kernel
theorem dX11_swings_214 : decode cX11_swings 214 = .ok (.aload_n 0, 1) := by decide +kernel
theorem dX11_swings_215 : decode cX11_swings 215 = .ok (.aload_n 0, 1) := by decide +kernel
theorem dX11_swings_216 : decode cX11_swings 216 = .ok (.getfield 41, 3) := by decide +kernel
theorem dX11_swings_219 : decode cX11_swings 219 = .ok (.aload_n 0, 1) := by decide +kernel
theorem dX11_swings_220 : decode cX11_swings 220 = .ok (.getfield 16, 3) := by decide +kernel
theorem dX11_swings_223 : decode cX11_swings 223 = .ok (.invokevirtual 222, 3) := by decide +kernel
theorem dX11_swings_226 : decode cX11_swings 226 = .ok (.aload_n 0, 1) := by decide +kernel
theorem dX11_swings_227 : decode cX11_swings 227 = .ok (.aload_n 0, 1) := by decide +kernel
theorem dX11_swings_228 : decode cX11_swings 228 = .ok (.getfield 44, 3) := by decide +kernel
theorem dX11_swings_231 : decode cX11_swings 231 = .ok (.aload_n 0, 1) := by decide +kernel
theorem dX11_swings_232 : decode cX11_swings 232 = .ok (.getfield 19, 3) := by decide +kernel
theorem dX11_swings_235 : decode cX11_swings 235 = .ok (.invokevirtual 222, 3) := by decide +kernel
theorem dX11_swings_238 : decode cX11_swings 238 = .ok (.aload_n 0, 1) := by decide +kernel
theorem dX11_swings_239 : decode cX11_swings 239 = .ok (.aload_n 0, 1) := by decide +kernel
theorem dX11_swings_240 : decode cX11_swings 240 = .ok (.getfield 47, 3) := by decide +kernel
theorem dX11_swings_243 : decode cX11_swings 243 = .ok (.aload_n 0, 1) := by decide +kernel
theorem dX11_swings_244 : decode cX11_swings 244 = .ok (.getfield 22, 3) := by decide +kernel
theorem dX11_swings_247 : decode cX11_swings 247 = .ok (.invokevirtual 222, 3) := by decide +kernel
theorem dX11_swings_250 : decode cX11_swings 250 = .ok (.aload_n 0, 1) := by decide +kernel
theorem dX11_swings_251 : decode cX11_swings 251 = .ok (.iconst 0, 1) := by decide +kernel
theorem dX11_swings_252 : decode cX11_swings 252 = .ok (.putfield 226, 3) := by decide +kernel
theorem dX11_swings_255 : decode cX11_swings 255 = .ok (.aload_n 0, 1) := by decide +kernel
theorem dX11_swings_256 : decode cX11_swings 256 = .ok (.iconst 0, 1) := by decide +kernel
theorem dX11_swings_257 : decode cX11_swings 257 = .ok (.putfield 229, 3) := by decide +kernel
theorem dX11_swings_260 : decode cX11_swings 260 = .ok (.aload_n 0, 1) := by decide +kernel
theorem dX11_swings_261 : decode cX11_swings 261 = .ok (.iconst 0, 1) := by decide +kernel
theorem dX11_swings_262 : decode cX11_swings 262 = .ok (.putfield 232, 3) := by decide +kernel
theorem dX11_swings_265 : decode cX11_swings 265 = .ok (.aload_n 0, 1) := by decide +kernel
theorem dX11_swings_266 : decode cX11_swings 266 = .ok (.iconst (-1), 1) := by decide +kernel
theorem dX11_swings_267 : decode cX11_swings 267 = .ok (.putfield 74, 3) := by decide +kernel
theorem dX11_swings_270 : decode cX11_swings 270 = .ok (.aload_n 0, 1) := by decide +kernel
theorem dX11_swings_271 : decode cX11_swings 271 = .ok (.getfield 77, 3) := by decide +kernel
theorem dX11_swings_274 : decode cX11_swings 274 = .ok (.iconst 0, 1) := by decide +kernel
theorem dX11_swings_275 : decode cX11_swings 275 = .ok (.iconst 0, 1) := by decide +kernel
theorem dX11_swings_276 : decode cX11_swings 276 = .ok (.iastore, 1) := by decide +kernel
theorem dX11_swings_277 : decode cX11_swings 277 = .ok (.aload_n 0, 1) := by decide +kernel
theorem dX11_swings_278 : decode cX11_swings 278 = .ok (.iconst 0, 1) := by decide +kernel
theorem dX11_swings_279 : decode cX11_swings 279 = .ok (.putfield 235, 3) := by decide +kernel
theorem dX11_swings_282 : decode cX11_swings 282 = .ok (.iconst 0, 1) := by decide +kernel
theorem dX11_swings_283 : decode cX11_swings 283 = .ok (.ireturn, 1) := by decide +kernel
theorem bX11_swings_0 {G : GX} {h : mH} {Q : mO → mH → Prop} {v1 : Int32} (hi : Iv h) (K : (v1 < 0 → WM G jX11_right [.ref 83, .int 0, .int 1] (pI h 83 0 0) (Aft G jX11_swings 24 [some (.ref 83), some (.int v1), none] [] Q)) ∧ (¬ v1 < 0 → (((gI (pI h 83 0 0) 83 9) < v1 → WM G jX11_right [.ref 83, .int 0, .int 1] (pI h 83 0 0) (Aft G jX11_swings 24 [some (.ref 83), some (.int v1), none] [] Q)) ∧ (¬ (gI (pI h 83 0 0) 83 9) < v1 → WM G jX11_right [.ref 83, .int 1, .int 1] (pI h 83 0 0) (Aft G jX11_swings 24 [some (.ref 83), some (.int v1), none] [] Q))))) : Vw G jX11_swings 0 [some (.ref 83), some (.int v1), none] [] h Q :=
  s_aload_n dX11_swings_0 rfl (s_iconst 0 dX11_swings_1 (by decide) (s_putI dX11_swings_2 flX11_113 ff10_0 rfl (hi.sh rfl rfl) (s_aload_n dX11_swings_5 rfl (s_iload_n dX11_swings_6 rfl (s_if_lt 22 dX11_swings_7 rfl (fun q5 => s_iconst 0 dX11_swings_22 (by decide) (s_iconst 1 dX11_swings_23 (by decide) (s_callV (As := [.int 0, .int 1]) dX11_swings_24 rfl lvX11_209 ⟨Nat.le_of_ble_eq_true rfl, Nat.le_of_ble_eq_true rfl⟩ (hi.sh rfl rfl) ⟨_, _, by decide, rfl⟩ rfl (Nat.le_of_ble_eq_true rfl) ((K.1 q5))))) (fun q5 => s_iload_n dX11_swings_10 rfl (s_aload_n dX11_swings_11 rfl (s_getI dX11_swings_12 flX11_116 (Or.inl rfl) (hi.sh rfl rfl) (s_icmp_gt 22 dX11_swings_15 rfl (fun q9 => s_iconst 0 dX11_swings_22 (by decide) (s_iconst 1 dX11_swings_23 (by decide) (s_callV (As := [.int 0, .int 1]) dX11_swings_24 rfl lvX11_209 ⟨Nat.le_of_ble_eq_true rfl, Nat.le_of_ble_eq_true rfl⟩ (hi.sh rfl rfl) ⟨_, _, by decide, rfl⟩ rfl (Nat.le_of_ble_eq_true rfl) (((K.2 q5).1 q9))))) (fun q9 => s_iconst 1 dX11_swings_18 (by decide) (s_goto 23 dX11_swings_19 rfl (s_iconst 1 dX11_swings_23 (by decide) (s_callV (As := [.int 1, .int 1]) dX11_swings_24 rfl lvX11_209 ⟨Nat.le_of_ble_eq_true rfl, Nat.le_of_ble_eq_true rfl⟩ (hi.sh rfl rfl) ⟨_, _, by decide, rfl⟩ rfl (Nat.le_of_ble_eq_true rfl) (((K.2 q5).2 q9)))))))))))))))
theorem bX11_swings_27 {G : GX} {h : mH} {Q : mO → mH → Prop} {v1 : Int32} {vs0 : Int32} (hi : Iv h) (K : (¬ vs0 = 0 → Vw G jX11_swings 74 [some (.ref 83), none, some (.int 0)] [] (pI (pI (pI (pI (pI (pI (pI (pI h 83 9 0) 83 11 (-1)) 83 10 0) 83 13 v1) 83 14 0) 83 21 0) 83 22 0) 83 23 0) Q) ∧ (vs0 = 0 → Q (.inl (some (.int 0))) h)) : Vw G jX11_swings 27 [some (.ref 83), some (.int v1), none] [.int vs0] h Q :=
  s_if_ne 32 dX11_swings_27 rfl (fun q0 => s_aload_n dX11_swings_32 rfl (s_iconst 0 dX11_swings_33 (by decide) (s_putI dX11_swings_34 flX11_116 ff10_9 rfl (hi.sh rfl rfl) (s_aload_n dX11_swings_37 rfl (s_iconst (-1) dX11_swings_38 (by decide) (s_putI dX11_swings_39 flX11_28 ff10_11 rfl (hi.sh rfl rfl) (s_aload_n dX11_swings_42 rfl (s_iconst 0 dX11_swings_43 (by decide) (s_putI dX11_swings_44 flX11_169 ff10_10 rfl (hi.sh rfl rfl) (s_aload_n dX11_swings_47 rfl (s_iload_n dX11_swings_48 rfl (s_putI dX11_swings_49 flX11_123 ff10_13 rfl (hi.sh rfl rfl) (s_aload_n dX11_swings_52 rfl (s_iconst 0 dX11_swings_53 (by decide) (s_putI dX11_swings_54 flX11_126 ff10_14 rfl (hi.sh rfl rfl) (s_aload_n dX11_swings_57 rfl (s_iconst 0 dX11_swings_58 (by decide) (s_putI dX11_swings_59 flX11_186 ff10_21 rfl (hi.sh rfl rfl) (s_aload_n dX11_swings_62 rfl (s_iconst 0 dX11_swings_63 (by decide) (s_putI dX11_swings_64 flX11_199 ff10_22 rfl (hi.sh rfl rfl) (s_aload_n dX11_swings_67 rfl (s_iconst 0 dX11_swings_68 (by decide) (s_putZ dX11_swings_69 flX11_205 ff10_23 rfl (hi.sh rfl rfl) (by decide) (s_iconst 0 dX11_swings_72 (by decide) (s_istore_n dX11_swings_73 (Nat.le_of_ble_eq_true rfl) rfl (Vw.mask [true, false, true] ((K.1 q0))))))))))))))))))))))))))))) (fun q0 => s_iconst 0 dX11_swings_30 (by decide) (s_ireturn dX11_swings_31 rfl (K.2 q0)))
theorem bX11_swings_74 {G : GX} {h : mH} {Q : mO → mH → Prop} {v2 : Int32} (hi : Iv h) (K : (12 ≤ v2 → Vw G jX11_swings 95 [some (.ref 83), none, some (.int 0)] [] h Q) ∧ (¬ 12 ≤ v2 → (vp_in v2 12 ∧ Vw G jX11_swings 74 [some (.ref 83), none, some (.int (v2 + 1))] [] (pI h 94 (Int32.toNatClampNeg v2) 0) Q))) : Vw G jX11_swings 74 [some (.ref 83), none, some (.int v2)] [] h Q :=
  s_iload_n dX11_swings_74 rfl (s_bipush 12 dX11_swings_75 (by decide) (s_icmp_ge 93 dX11_swings_77 rfl (fun q2 => s_iconst 0 dX11_swings_93 (by decide) (s_istore_n dX11_swings_94 (Nat.le_of_ble_eq_true rfl) rfl ((K.1 q2)))) (fun q2 => s_aload_n dX11_swings_80 rfl (s_getR (v := .ref 94) dX11_swings_81 flX11_44 rfl (hi.sh rfl rfl) (hi.rf (o := 83) (k := 27) (d := 11) rfl rfl) (s_iload_n dX11_swings_84 rfl (s_iconst 0 dX11_swings_85 (by decide) (s_iastore dX11_swings_86 (hi.sh rfl rfl) (K.2 q2).1 (s_iinc 1 dX11_swings_87 rfl (by decide) (Nat.le_of_ble_eq_true rfl) rfl (s_goto 74 dX11_swings_90 rfl ((K.2 q2).2))))))))))
theorem bX11_swings_95 {G : GX} {h : mH} {Q : mO → mH → Prop} {v2 : Int32} (hi : Iv h) (K : (4 ≤ v2 → WM G jX11_steps [.ref 83] h (Aft G jX11_swings 128 [some (.ref 83), none, none] [] Q)) ∧ (¬ 4 ≤ v2 → (vp_in v2 4 ∧ (vp_in v2 4 ∧ (vp_in v2 4 ∧ Vw G jX11_swings 95 [some (.ref 83), none, some (.int (v2 + 1))] [] (pI (pI (pI h 91 (Int32.toNatClampNeg v2) 0) 92 (Int32.toNatClampNeg v2) 2) 93 (Int32.toNatClampNeg v2) 0) Q))))) : Vw G jX11_swings 95 [some (.ref 83), none, some (.int v2)] [] h Q :=
  s_iload_n dX11_swings_95 rfl (s_iconst 4 dX11_swings_96 (by decide) (s_icmp_ge 127 dX11_swings_97 rfl (fun q2 => s_aload_n dX11_swings_127 rfl (Vw.mask [true, false, false] (s_callV (As := []) dX11_swings_128 rfl lvX11_176 ⟨Nat.le_of_ble_eq_true rfl, Nat.le_of_ble_eq_true rfl⟩ (hi.sh rfl rfl) ⟨_, _, by decide, rfl⟩ rfl (Nat.le_of_ble_eq_true rfl) ((K.1 q2))))) (fun q2 => s_aload_n dX11_swings_100 rfl (s_getR (v := .ref 91) dX11_swings_101 flX11_35 rfl (hi.sh rfl rfl) (hi.rf (o := 83) (k := 24) (d := 8) rfl rfl) (s_iload_n dX11_swings_104 rfl (s_iconst 0 dX11_swings_105 (by decide) (s_iastore dX11_swings_106 (hi.sh rfl rfl) (K.2 q2).1 (s_aload_n dX11_swings_107 rfl (s_getR (v := .ref 92) dX11_swings_108 flX11_38 rfl (hi.sh rfl rfl) (hi.rf (o := 83) (k := 25) (d := 9) rfl rfl) (s_iload_n dX11_swings_111 rfl (s_iconst 2 dX11_swings_112 (by decide) (s_iastore dX11_swings_113 (hi.sh rfl rfl) (K.2 q2).2.1 (s_aload_n dX11_swings_114 rfl (s_getR (v := .ref 93) dX11_swings_115 flX11_41 rfl (hi.sh rfl rfl) (hi.rf (o := 83) (k := 26) (d := 10) rfl rfl) (s_iload_n dX11_swings_118 rfl (s_iconst 0 dX11_swings_119 (by decide) (s_iastore dX11_swings_120 (hi.sh rfl rfl) (K.2 q2).2.2.1 (s_iinc 1 dX11_swings_121 rfl (by decide) (Nat.le_of_ble_eq_true rfl) rfl (s_goto 95 dX11_swings_124 rfl ((K.2 q2).2.2.2))))))))))))))))))))
theorem bX11_swings_131 {G : GX} {h : mH} {Q : mO → mH → Prop} (hi : Iv h) (K : ((fX11_isGood h) = 0 → Vw G jX11_swings 152 [some (.ref 83), none, none] [] h Q) ∧ (¬ (fX11_isGood h) = 0 → (((gI h 83 15) = 0 → Vw G jX11_swings 152 [some (.ref 83), none, none] [] h Q) ∧ (¬ (gI h 83 15) = 0 → WM G jX11_line [.ref 83] h (Aft G jX11_swings 146 [some (.ref 83), none, none] [] Q))))) : Vw G jX11_swings 131 [some (.ref 83), none, none] [] h Q :=
  s_aload_n dX11_swings_131 rfl (s_callV (As := []) dX11_swings_132 rfl lvX11_172 ⟨Nat.le_of_ble_eq_true rfl, Nat.le_of_ble_eq_true rfl⟩ (hi.sh rfl rfl) ⟨_, _, by decide, rfl⟩ rfl (Nat.le_of_ble_eq_true rfl) (mX11_isGood hi   (s_if_eq 152 dX11_swings_135 rfl (fun q2 => (K.1 q2)) (fun q2 => s_aload_n dX11_swings_138 rfl (s_getI dX11_swings_139 flX11_146 (Or.inl rfl) (hi.sh rfl rfl) (s_if_eq 152 dX11_swings_142 rfl (fun q5 => ((K.2 q2).1 q5)) (fun q5 => s_aload_n dX11_swings_145 rfl (s_callV (As := []) dX11_swings_146 rfl lvX11_213 ⟨Nat.le_of_ble_eq_true rfl, Nat.le_of_ble_eq_true rfl⟩ (hi.sh rfl rfl) ⟨_, _, by decide, rfl⟩ rfl (Nat.le_of_ble_eq_true rfl) (((K.2 q2).2 q5))))))))))
theorem bX11_swings_149 {G : GX} {h : mH} {Q : mO → mH → Prop} (hi : Iv h) (K : Vw G jX11_swings 131 [some (.ref 83), none, none] [] h Q) : Vw G jX11_swings 149 [some (.ref 83), none, none] [] h Q :=
  s_goto 131 dX11_swings_149 rfl (K)
theorem bX11_swings_152 {G : GX} {h : mH} {Q : mO → mH → Prop} (hi : Iv h) (K : (¬ (fX11_isGood h) = 0 → WM G jX11_copies [.ref 83, .ref 91, .ref 84] (pI (pI h 83 1 (gI h 83 21)) 83 2 (gI (pI h 83 1 (gI h 83 21)) 83 22)) (Aft G jX11_swings 199 [some (.ref 83), none, none] [] Q)) ∧ ((fX11_isGood h) = 0 → Q (.inl (some (.int (gI (pI h 90 0 ((gI h 90 0) + 1)) 83 10)))) (pI h 90 0 ((gI h 90 0) + 1)))) : Vw G jX11_swings 152 [some (.ref 83), none, none] [] h Q :=
  s_aload_n dX11_swings_152 rfl (s_callV (As := []) dX11_swings_153 rfl lvX11_172 ⟨Nat.le_of_ble_eq_true rfl, Nat.le_of_ble_eq_true rfl⟩ (hi.sh rfl rfl) ⟨_, _, by decide, rfl⟩ rfl (Nat.le_of_ble_eq_true rfl) (mX11_isGood hi   (s_if_ne 174 dX11_swings_156 rfl (fun q2 => s_aload_n dX11_swings_174 rfl (s_aload_n dX11_swings_175 rfl (s_getI dX11_swings_176 flX11_186 (Or.inl rfl) (hi.sh rfl rfl) (s_putI dX11_swings_179 flX11_216 ff10_1 rfl (hi.sh rfl rfl) (s_aload_n dX11_swings_182 rfl (s_aload_n dX11_swings_183 rfl (s_getI dX11_swings_184 flX11_199 (Or.inl rfl) (hi.sh rfl rfl) (s_putI dX11_swings_187 flX11_219 ff10_2 rfl (hi.sh rfl rfl) (s_aload_n dX11_swings_190 rfl (s_aload_n dX11_swings_191 rfl (s_getR (v := .ref 91) dX11_swings_192 flX11_35 rfl (hi.sh rfl rfl) (hi.rf (o := 83) (k := 24) (d := 8) rfl rfl) (s_aload_n dX11_swings_195 rfl (s_getR (v := .ref 84) dX11_swings_196 flX11_7 rfl (hi.sh rfl rfl) (hi.rf (o := 83) (k := 3) (d := 1) rfl rfl) (s_callV (As := [.ref 91, .ref 84]) dX11_swings_199 rfl lvX11_222 ⟨Nat.le_of_ble_eq_true rfl, Nat.le_of_ble_eq_true rfl⟩ (hi.sh rfl rfl) ⟨_, _, by decide, rfl⟩ rfl (Nat.le_of_ble_eq_true rfl) ((K.1 q2)))))))))))))))) (fun q2 => s_aload_n dX11_swings_159 rfl (s_getR (v := .ref 90) dX11_swings_160 flX11_32 rfl (hi.sh rfl rfl) (hi.rf (o := 83) (k := 12) (d := 7) rfl rfl) (s_iconst 0 dX11_swings_163 (by decide) (s_dup2ir dX11_swings_164 (s_iaload dX11_swings_165 (hi.sh rfl rfl) (by unfold vp_in; decide) (s_iconst 1 dX11_swings_166 (by decide) (s_iadd dX11_swings_167 (s_iastore dX11_swings_168 (hi.sh rfl rfl) (by unfold vp_in; decide) (s_aload_n dX11_swings_169 rfl (s_getI dX11_swings_170 flX11_169 (Or.inl rfl) (hi.sh rfl rfl) (s_ireturn dX11_swings_173 rfl (K.2 q2)))))))))))))))
theorem bX11_swings_202 {G : GX} {h : mH} {Q : mO → mH → Prop} (hi : Iv h) (K : WM G jX11_copies [.ref 83, .ref 92, .ref 85] h (Aft G jX11_swings 211 [some (.ref 83), none, none] [] Q)) : Vw G jX11_swings 202 [some (.ref 83), none, none] [] h Q :=
  s_aload_n dX11_swings_202 rfl (s_aload_n dX11_swings_203 rfl (s_getR (v := .ref 92) dX11_swings_204 flX11_38 rfl (hi.sh rfl rfl) (hi.rf (o := 83) (k := 25) (d := 9) rfl rfl) (s_aload_n dX11_swings_207 rfl (s_getR (v := .ref 85) dX11_swings_208 flX11_13 rfl (hi.sh rfl rfl) (hi.rf (o := 83) (k := 4) (d := 2) rfl rfl) (s_callV (As := [.ref 92, .ref 85]) dX11_swings_211 rfl lvX11_222 ⟨Nat.le_of_ble_eq_true rfl, Nat.le_of_ble_eq_true rfl⟩ (hi.sh rfl rfl) ⟨_, _, by decide, rfl⟩ rfl (Nat.le_of_ble_eq_true rfl) (K))))))
theorem bX11_swings_214 {G : GX} {h : mH} {Q : mO → mH → Prop} (hi : Iv h) (K : WM G jX11_copies [.ref 83, .ref 93, .ref 86] h (Aft G jX11_swings 223 [some (.ref 83), none, none] [] Q)) : Vw G jX11_swings 214 [some (.ref 83), none, none] [] h Q :=
  s_aload_n dX11_swings_214 rfl (s_aload_n dX11_swings_215 rfl (s_getR (v := .ref 93) dX11_swings_216 flX11_41 rfl (hi.sh rfl rfl) (hi.rf (o := 83) (k := 26) (d := 10) rfl rfl) (s_aload_n dX11_swings_219 rfl (s_getR (v := .ref 86) dX11_swings_220 flX11_16 rfl (hi.sh rfl rfl) (hi.rf (o := 83) (k := 5) (d := 3) rfl rfl) (s_callV (As := [.ref 93, .ref 86]) dX11_swings_223 rfl lvX11_222 ⟨Nat.le_of_ble_eq_true rfl, Nat.le_of_ble_eq_true rfl⟩ (hi.sh rfl rfl) ⟨_, _, by decide, rfl⟩ rfl (Nat.le_of_ble_eq_true rfl) (K))))))
theorem bX11_swings_226 {G : GX} {h : mH} {Q : mO → mH → Prop} (hi : Iv h) (K : WM G jX11_copies [.ref 83, .ref 94, .ref 87] h (Aft G jX11_swings 235 [some (.ref 83), none, none] [] Q)) : Vw G jX11_swings 226 [some (.ref 83), none, none] [] h Q :=
  s_aload_n dX11_swings_226 rfl (s_aload_n dX11_swings_227 rfl (s_getR (v := .ref 94) dX11_swings_228 flX11_44 rfl (hi.sh rfl rfl) (hi.rf (o := 83) (k := 27) (d := 11) rfl rfl) (s_aload_n dX11_swings_231 rfl (s_getR (v := .ref 87) dX11_swings_232 flX11_19 rfl (hi.sh rfl rfl) (hi.rf (o := 83) (k := 6) (d := 4) rfl rfl) (s_callV (As := [.ref 94, .ref 87]) dX11_swings_235 rfl lvX11_222 ⟨Nat.le_of_ble_eq_true rfl, Nat.le_of_ble_eq_true rfl⟩ (hi.sh rfl rfl) ⟨_, _, by decide, rfl⟩ rfl (Nat.le_of_ble_eq_true rfl) (K))))))
theorem bX11_swings_238 {G : GX} {h : mH} {Q : mO → mH → Prop} (hi : Iv h) (K : WM G jX11_copies [.ref 83, .ref 95, .ref 88] h (Aft G jX11_swings 247 [some (.ref 83), none, none] [] Q)) : Vw G jX11_swings 238 [some (.ref 83), none, none] [] h Q :=
  s_aload_n dX11_swings_238 rfl (s_aload_n dX11_swings_239 rfl (s_getR (v := .ref 95) dX11_swings_240 flX11_47 rfl (hi.sh rfl rfl) (hi.rf (o := 83) (k := 28) (d := 12) rfl rfl) (s_aload_n dX11_swings_243 rfl (s_getR (v := .ref 88) dX11_swings_244 flX11_22 rfl (hi.sh rfl rfl) (hi.rf (o := 83) (k := 7) (d := 5) rfl rfl) (s_callV (As := [.ref 95, .ref 88]) dX11_swings_247 rfl lvX11_222 ⟨Nat.le_of_ble_eq_true rfl, Nat.le_of_ble_eq_true rfl⟩ (hi.sh rfl rfl) ⟨_, _, by decide, rfl⟩ rfl (Nat.le_of_ble_eq_true rfl) (K))))))
theorem bX11_swings_250 {G : GX} {h : mH} {Q : mO → mH → Prop} (hi : Iv h) (K : Q (.inl (some (.int 0))) (pI (pI (pI (pI (pI (pI h 83 30 0) 83 33 0) 83 36 0) 83 40 (-1)) 104 0 0) 83 55 0)) : Vw G jX11_swings 250 [some (.ref 83), none, none] [] h Q :=
  s_aload_n dX11_swings_250 rfl (s_iconst 0 dX11_swings_251 (by decide) (s_putI dX11_swings_252 flX11_226 ff10_30 rfl (hi.sh rfl rfl) (s_aload_n dX11_swings_255 rfl (s_iconst 0 dX11_swings_256 (by decide) (s_putI dX11_swings_257 flX11_229 ff10_33 rfl (hi.sh rfl rfl) (s_aload_n dX11_swings_260 rfl (s_iconst 0 dX11_swings_261 (by decide) (s_putI dX11_swings_262 flX11_232 ff10_36 rfl (hi.sh rfl rfl) (s_aload_n dX11_swings_265 rfl (s_iconst (-1) dX11_swings_266 (by decide) (s_putI dX11_swings_267 flX11_74 ff10_40 rfl (hi.sh rfl rfl) (s_aload_n dX11_swings_270 rfl (s_getR (v := .ref 104) dX11_swings_271 flX11_77 rfl (hi.sh rfl rfl) (hi.rf (o := 83) (k := 42) (d := 21) rfl rfl) (s_iconst 0 dX11_swings_274 (by decide) (s_iconst 0 dX11_swings_275 (by decide) (s_iastore dX11_swings_276 (hi.sh rfl rfl) (by unfold vp_in; decide) (s_aload_n dX11_swings_277 rfl (s_iconst 0 dX11_swings_278 (by decide) (s_putZ dX11_swings_279 flX11_235 ff10_55 rfl (hi.sh rfl rfl) (by decide) (s_iconst 0 dX11_swings_282 (by decide) (s_ireturn dX11_swings_283 rfl K)))))))))))))))))))))
theorem eX11_swings {G : GX} {h : mH} {Q : mO → mH → Prop} {v1 : Int32} (hi : Iv h) (K : (v1 < 0 → WM G jX11_right [.ref 83, .int 0, .int 1] (pI h 83 0 0) (Aft G jX11_swings 24 [some (.ref 83), some (.int v1), none] [] Q)) ∧ (¬ v1 < 0 → (((gI (pI h 83 0 0) 83 9) < v1 → WM G jX11_right [.ref 83, .int 0, .int 1] (pI h 83 0 0) (Aft G jX11_swings 24 [some (.ref 83), some (.int v1), none] [] Q)) ∧ (¬ (gI (pI h 83 0 0) 83 9) < v1 → WM G jX11_right [.ref 83, .int 1, .int 1] (pI h 83 0 0) (Aft G jX11_swings 24 [some (.ref 83), some (.int v1), none] [] Q))))) : WM G jX11_swings [.ref 83, .int v1] h Q :=
  WM.body (ls := [some (.ref 83), some (.int v1), none]) rfl (by decide +kernel) rfl (Nat.le_of_ble_eq_true rfl) rfl ((bX11_swings_0 hi  K))
theorem dX11_fault_0 : decode cX11_fault 0 = .ok (.aload_n 0, 1) := by decide +kernel
theorem dX11_fault_1 : decode cX11_fault 1 = .ok (.iconst 0, 1) := by decide +kernel
theorem dX11_fault_2 : decode cX11_fault 2 = .ok (.putfield 113, 3) := by decide +kernel
theorem dX11_fault_5 : decode cX11_fault 5 = .ok (.aload_n 0, 1) := by decide +kernel
theorem dX11_fault_6 : decode cX11_fault 6 = .ok (.getfield 28, 3) := by decide +kernel
theorem dX11_fault_9 : decode cX11_fault 9 = .ok (.ireturn, 1) := by decide +kernel
theorem bX11_fault_0 {G : GX} {h : mH} {Q : mO → mH → Prop} (hi : Iv h) (K : Q (.inl (some (.int (gI (pI h 83 0 0) 83 11)))) (pI h 83 0 0)) : Vw G jX11_fault 0 [some (.ref 83)] [] h Q :=
  s_aload_n dX11_fault_0 rfl (s_iconst 0 dX11_fault_1 (by decide) (s_putI dX11_fault_2 flX11_113 ff10_0 rfl (hi.sh rfl rfl) (s_aload_n dX11_fault_5 rfl (s_getI dX11_fault_6 flX11_28 (Or.inl rfl) (hi.sh rfl rfl) (s_ireturn dX11_fault_9 rfl K)))))
theorem eX11_fault {G : GX} {h : mH} {Q : mO → mH → Prop} (hi : Iv h) (K : Q (.inl (some (.int (gI (pI h 83 0 0) 83 11)))) (pI h 83 0 0)) : WM G jX11_fault [.ref 83] h Q :=
  WM.body (ls := [some (.ref 83)]) rfl (by decide +kernel) rfl (Nat.le_of_ble_eq_true rfl) rfl ((bX11_fault_0 hi  K))
theorem dX11_count_0 : decode cX11_count 0 = .ok (.aload_n 0, 1) := by decide +kernel
theorem dX11_count_1 : decode cX11_count 1 = .ok (.iconst 0, 1) := by decide +kernel
theorem dX11_count_2 : decode cX11_count 2 = .ok (.putfield 113, 3) := by decide +kernel
theorem dX11_count_5 : decode cX11_count 5 = .ok (.aload_n 0, 1) := by decide +kernel
theorem dX11_count_6 : decode cX11_count 6 = .ok (.iload_n 1, 1) := by decide +kernel
theorem dX11_count_7 : decode cX11_count 7 = .ok (.iconst 0, 1) := by decide +kernel
theorem dX11_count_8 : decode cX11_count 8 = .ok (.bipush 10, 2) := by decide +kernel
theorem dX11_count_10 : decode cX11_count 10 = .ok (.invokestatic 238, 3) := by decide +kernel
theorem dX11_count_13 : decode cX11_count 13 = .ok (.iconst 1, 1) := by decide +kernel
theorem dX11_count_14 : decode cX11_count 14 = .ok (.invokevirtual 209, 3) := by decide +kernel
theorem dX11_count_17 : decode cX11_count 17 = .ok (.ifCond .ne 5, 3) := by decide +kernel
theorem dX11_count_20 : decode cX11_count 20 = .ok (.iconst 0, 1) := by decide +kernel
theorem dX11_count_21 : decode cX11_count 21 = .ok (.ireturn, 1) := by decide +kernel
theorem dX11_count_22 : decode cX11_count 22 = .ok (.iload_n 1, 1) := by decide +kernel
theorem dX11_count_23 : decode cX11_count 23 = .ok (.tableswitch 67 0 5 #[37, 42, 47, 52, 57, 62], 37) := by decide +kernel
theorem dX11_count_60 : decode cX11_count 60 = .ok (.aload_n 0, 1) := by decide +kernel
theorem dX11_count_61 : decode cX11_count 61 = .ok (.getfield 216, 3) := by decide +kernel
theorem dX11_count_64 : decode cX11_count 64 = .ok (.ireturn, 1) := by decide +kernel
theorem dX11_count_65 : decode cX11_count 65 = .ok (.aload_n 0, 1) := by decide +kernel
theorem dX11_count_66 : decode cX11_count 66 = .ok (.getfield 219, 3) := by decide +kernel
theorem dX11_count_69 : decode cX11_count 69 = .ok (.ireturn, 1) := by decide +kernel
theorem dX11_count_70 : decode cX11_count 70 = .ok (.aload_n 0, 1) := by decide +kernel
theorem dX11_count_71 : decode cX11_count 71 = .ok (.getfield 226, 3) := by decide +kernel
theorem dX11_count_74 : decode cX11_count 74 = .ok (.ireturn, 1) := by decide +kernel
theorem dX11_count_75 : decode cX11_count 75 = .ok (.aload_n 0, 1) := by decide +kernel
theorem dX11_count_76 : decode cX11_count 76 = .ok (.getfield 229, 3) := by decide +kernel
theorem dX11_count_79 : decode cX11_count 79 = .ok (.ireturn, 1) := by decide +kernel
theorem dX11_count_80 : decode cX11_count 80 = .ok (.aload_n 0, 1) := by decide +kernel
theorem dX11_count_81 : decode cX11_count 81 = .ok (.getfield 232, 3) := by decide +kernel
theorem dX11_count_84 : decode cX11_count 84 = .ok (.ireturn, 1) := by decide +kernel
theorem dX11_count_85 : decode cX11_count 85 = .ok (.aload_n 0, 1) := by decide +kernel
theorem dX11_count_86 : decode cX11_count 86 = .ok (.getfield 116, 3) := by decide +kernel
theorem dX11_count_89 : decode cX11_count 89 = .ok (.ireturn, 1) := by decide +kernel
theorem dX11_count_90 : decode cX11_count 90 = .ok (.aload_n 0, 1) := by decide +kernel
theorem dX11_count_91 : decode cX11_count 91 = .ok (.getfield 32, 3) := by decide +kernel
theorem dX11_count_94 : decode cX11_count 94 = .ok (.iload_n 1, 1) := by decide +kernel
theorem dX11_count_95 : decode cX11_count 95 = .ok (.bipush 6, 2) := by decide +kernel
theorem dX11_count_97 : decode cX11_count 97 = .ok (.isub, 1) := by decide +kernel
theorem dX11_count_98 : decode cX11_count 98 = .ok (.iaload, 1) := by decide +kernel
theorem dX11_count_99 : decode cX11_count 99 = .ok (.ireturn, 1) := by decide +kernel
theorem bX11_count_0 {G : GX} {h : mH} {Q : mO → mH → Prop} {v1 : Int32} (hi : Iv h) (K : WM G jX11_right [.ref 83, .int (fX11_within v1 0 10), .int 1] (pI h 83 0 0) (Aft G jX11_count 14 [some (.ref 83), some (.int v1)] [] Q)) : Vw G jX11_count 0 [some (.ref 83), some (.int v1)] [] h Q :=
  s_aload_n dX11_count_0 rfl (s_iconst 0 dX11_count_1 (by decide) (s_putI dX11_count_2 flX11_113 ff10_0 rfl (hi.sh rfl rfl) (s_aload_n dX11_count_5 rfl (s_iload_n dX11_count_6 rfl (s_iconst 0 dX11_count_7 (by decide) (s_bipush 10 dX11_count_8 (by decide) (s_callS (As := [.int v1, .int 0, .int 10]) dX11_count_10 rfl lsX11_238 ⟨Nat.le_of_ble_eq_true rfl, Nat.le_of_ble_eq_true rfl⟩ rfl (Nat.le_of_ble_eq_true rfl) (mX11_within   (s_iconst 1 dX11_count_13 (by decide) (s_callV (As := [.int (fX11_within v1 0 10), .int 1]) dX11_count_14 rfl lvX11_209 ⟨Nat.le_of_ble_eq_true rfl, Nat.le_of_ble_eq_true rfl⟩ (hi.sh rfl rfl) ⟨_, _, by decide, rfl⟩ rfl (Nat.le_of_ble_eq_true rfl) (K)))))))))))
theorem bX11_count_17 {G : GX} {h : mH} {Q : mO → mH → Prop} {v1 : Int32} {vs0 : Int32} (hi : Iv h) (K : (¬ vs0 = 0 → ((v1 = 0 → Q (.inl (some (.int (gI h 83 1)))) h) ∧ (v1 = 1 → Q (.inl (some (.int (gI h 83 2)))) h) ∧ (v1 = 2 → Q (.inl (some (.int (gI h 83 30)))) h) ∧ (v1 = 3 → Q (.inl (some (.int (gI h 83 33)))) h) ∧ (v1 = 4 → Q (.inl (some (.int (gI h 83 36)))) h) ∧ (v1 = 5 → Q (.inl (some (.int (gI h 83 9)))) h) ∧ (¬ v1 = 0 → ¬ v1 = 1 → ¬ v1 = 2 → ¬ v1 = 3 → ¬ v1 = 4 → ¬ v1 = 5 → (vp_in (v1 - 6) 5 ∧ Q (.inl (some (.int (gI h 90 (Int32.toNatClampNeg (v1 - 6)))))) h)))) ∧ (vs0 = 0 → Q (.inl (some (.int 0))) h)) : Vw G jX11_count 17 [some (.ref 83), some (.int v1)] [.int vs0] h Q :=
  s_if_ne 22 dX11_count_17 rfl (fun q0 => s_iload_n dX11_count_22 rfl (Decidable.byCases (fun e2_0 => s_tableIn 60 dX11_count_23 (by rw [e2_0] <;> decide) (by rw [e2_0] <;> decide) (by rw [e2_0] <;> rfl) rfl (s_aload_n dX11_count_60 rfl (s_getI dX11_count_61 flX11_216 (Or.inl rfl) (hi.sh rfl rfl) (s_ireturn dX11_count_64 rfl ((K.1 q0).1 e2_0))))) (fun e2_0 => Decidable.byCases (fun e2_1 => s_tableIn 65 dX11_count_23 (by rw [e2_1] <;> decide) (by rw [e2_1] <;> decide) (by rw [e2_1] <;> rfl) rfl (s_aload_n dX11_count_65 rfl (s_getI dX11_count_66 flX11_219 (Or.inl rfl) (hi.sh rfl rfl) (s_ireturn dX11_count_69 rfl ((K.1 q0).2.1 e2_1))))) (fun e2_1 => Decidable.byCases (fun e2_2 => s_tableIn 70 dX11_count_23 (by rw [e2_2] <;> decide) (by rw [e2_2] <;> decide) (by rw [e2_2] <;> rfl) rfl (s_aload_n dX11_count_70 rfl (s_getI dX11_count_71 flX11_226 (Or.inl rfl) (hi.sh rfl rfl) (s_ireturn dX11_count_74 rfl ((K.1 q0).2.2.1 e2_2))))) (fun e2_2 => Decidable.byCases (fun e2_3 => s_tableIn 75 dX11_count_23 (by rw [e2_3] <;> decide) (by rw [e2_3] <;> decide) (by rw [e2_3] <;> rfl) rfl (s_aload_n dX11_count_75 rfl (s_getI dX11_count_76 flX11_229 (Or.inl rfl) (hi.sh rfl rfl) (s_ireturn dX11_count_79 rfl ((K.1 q0).2.2.2.1 e2_3))))) (fun e2_3 => Decidable.byCases (fun e2_4 => s_tableIn 80 dX11_count_23 (by rw [e2_4] <;> decide) (by rw [e2_4] <;> decide) (by rw [e2_4] <;> rfl) rfl (s_aload_n dX11_count_80 rfl (s_getI dX11_count_81 flX11_232 (Or.inl rfl) (hi.sh rfl rfl) (s_ireturn dX11_count_84 rfl ((K.1 q0).2.2.2.2.1 e2_4))))) (fun e2_4 => Decidable.byCases (fun e2_5 => s_tableIn 85 dX11_count_23 (by rw [e2_5] <;> decide) (by rw [e2_5] <;> decide) (by rw [e2_5] <;> rfl) rfl (s_aload_n dX11_count_85 rfl (s_getI dX11_count_86 flX11_116 (Or.inl rfl) (hi.sh rfl rfl) (s_ireturn dX11_count_89 rfl ((K.1 q0).2.2.2.2.2.1 e2_5))))) (fun e2_5 => s_tableOut 90 dX11_count_23 (sw_out [0, 1, 2, 3, 4, 5] (by simp only [List.forall_mem_cons]; exact ⟨e2_0, e2_1, e2_2, e2_3, e2_4, e2_5, fun _ hh => nomatch hh⟩) (fun k z1 z2 => by rcases (show k = 0 ∨ k = 1 ∨ k = 2 ∨ k = 3 ∨ k = 4 ∨ k = 5 by omega) with rfl | rfl | rfl | rfl | rfl | rfl <;> decide)) rfl (s_aload_n dX11_count_90 rfl (s_getR (v := .ref 90) dX11_count_91 flX11_32 rfl (hi.sh rfl rfl) (hi.rf (o := 83) (k := 12) (d := 7) rfl rfl) (s_iload_n dX11_count_94 rfl (s_bipush 6 dX11_count_95 (by decide) (s_isub dX11_count_97 (s_iaload dX11_count_98 (hi.sh rfl rfl) ((K.1 q0).2.2.2.2.2.2 e2_0 e2_1 e2_2 e2_3 e2_4 e2_5).1 (s_ireturn dX11_count_99 rfl ((K.1 q0).2.2.2.2.2.2 e2_0 e2_1 e2_2 e2_3 e2_4 e2_5).2))))))))))))))) (fun q0 => s_iconst 0 dX11_count_20 (by decide) (s_ireturn dX11_count_21 rfl (K.2 q0)))
theorem eX11_count {G : GX} {h : mH} {Q : mO → mH → Prop} {v1 : Int32} (hi : Iv h) (K : WM G jX11_right [.ref 83, .int (fX11_within v1 0 10), .int 1] (pI h 83 0 0) (Aft G jX11_count 14 [some (.ref 83), some (.int v1)] [] Q)) : WM G jX11_count [.ref 83, .int v1] h Q :=
  WM.body (ls := [some (.ref 83), some (.int v1)]) rfl (by decide +kernel) rfl (Nat.le_of_ble_eq_true rfl) rfl ((bX11_count_0 hi  K))
theorem dX11_isPendulum_0 : decode cX11_isPendulum 0 = .ok (.aload_n 0, 1) := by decide +kernel
theorem dX11_isPendulum_1 : decode cX11_isPendulum 1 = .ok (.iload_n 1, 1) := by decide +kernel
theorem dX11_isPendulum_2 : decode cX11_isPendulum 2 = .ok (.iconst 0, 1) := by decide +kernel
theorem dX11_isPendulum_3 : decode cX11_isPendulum 3 = .ok (.iconst 3, 1) := by decide +kernel
theorem dX11_isPendulum_4 : decode cX11_isPendulum 4 = .ok (.invokestatic 238, 3) := by decide +kernel
theorem dX11_isPendulum_7 : decode cX11_isPendulum 7 = .ok (.iconst 1, 1) := by decide +kernel
theorem dX11_isPendulum_8 : decode cX11_isPendulum 8 = .ok (.invokevirtual 209, 3) := by decide +kernel
theorem dX11_isPendulum_11 : decode cX11_isPendulum 11 = .ok (.ireturn, 1) := by decide +kernel
theorem bX11_isPendulum_0 {G : GX} {h : mH} {Q : mO → mH → Prop} {v1 : Int32} (hi : Iv h) (K : WM G jX11_right [.ref 83, .int (fX11_within v1 0 3), .int 1] h (Aft G jX11_isPendulum 8 [none, none] [] Q)) : Vw G jX11_isPendulum 0 [some (.ref 83), some (.int v1)] [] h Q :=
  s_aload_n dX11_isPendulum_0 rfl (s_iload_n dX11_isPendulum_1 rfl (s_iconst 0 dX11_isPendulum_2 (by decide) (s_iconst 3 dX11_isPendulum_3 (by decide) (s_callS (As := [.int v1, .int 0, .int 3]) dX11_isPendulum_4 rfl lsX11_238 ⟨Nat.le_of_ble_eq_true rfl, Nat.le_of_ble_eq_true rfl⟩ rfl (Nat.le_of_ble_eq_true rfl) (mX11_within   (s_iconst 1 dX11_isPendulum_7 (by decide) (Vw.mask [false, false] (s_callV (As := [.int (fX11_within v1 0 3), .int 1]) dX11_isPendulum_8 rfl lvX11_209 ⟨Nat.le_of_ble_eq_true rfl, Nat.le_of_ble_eq_true rfl⟩ (hi.sh rfl rfl) ⟨_, _, by decide, rfl⟩ rfl (Nat.le_of_ble_eq_true rfl) (K)))))))))
theorem bX11_isPendulum_11 {G : GX} {h : mH} {Q : mO → mH → Prop} {vs0 : Int32} (hi : Iv h) (K : (vs0 = 0 ∨ vs0 = 1) ∧ Q (.inl (some (.int vs0))) h) : Vw G jX11_isPendulum 11 [none, none] [.int vs0] h Q :=
  s_zreturn dX11_isPendulum_11 rfl K.1 K.2
theorem eX11_isPendulum {G : GX} {h : mH} {Q : mO → mH → Prop} {v1 : Int32} (hi : Iv h) (K : WM G jX11_right [.ref 83, .int (fX11_within v1 0 3), .int 1] h (Aft G jX11_isPendulum 8 [none, none] [] Q)) : WM G jX11_isPendulum [.ref 83, .int v1] h Q :=
  WM.body (ls := [some (.ref 83), some (.int v1)]) rfl (by decide +kernel) rfl (Nat.le_of_ble_eq_true rfl) rfl ((bX11_isPendulum_0 hi  K))
theorem dX11_isTick_0 : decode cX11_isTick 0 = .ok (.aload_n 0, 1) := by decide +kernel
theorem dX11_isTick_1 : decode cX11_isTick 1 = .ok (.iload_n 1, 1) := by decide +kernel
theorem dX11_isTick_2 : decode cX11_isTick 2 = .ok (.iconst 0, 1) := by decide +kernel
theorem dX11_isTick_3 : decode cX11_isTick 3 = .ok (.sipush 9999, 3) := by decide +kernel
theorem dX11_isTick_6 : decode cX11_isTick 6 = .ok (.invokestatic 238, 3) := by decide +kernel
theorem dX11_isTick_9 : decode cX11_isTick 9 = .ok (.iload_n 2, 1) := by decide +kernel
theorem dX11_isTick_10 : decode cX11_isTick 10 = .ok (.invokevirtual 209, 3) := by decide +kernel
theorem dX11_isTick_13 : decode cX11_isTick 13 = .ok (.ireturn, 1) := by decide +kernel
theorem bX11_isTick_0 {G : GX} {h : mH} {Q : mO → mH → Prop} {v1 : Int32} {v2 : Int32} (hi : Iv h) (K : WM G jX11_right [.ref 83, .int (fX11_within v1 0 9999), .int v2] h (Aft G jX11_isTick 10 [none, none, none] [] Q)) : Vw G jX11_isTick 0 [some (.ref 83), some (.int v1), some (.int v2)] [] h Q :=
  s_aload_n dX11_isTick_0 rfl (s_iload_n dX11_isTick_1 rfl (s_iconst 0 dX11_isTick_2 (by decide) (s_sipush 9999 dX11_isTick_3 (by decide) (s_callS (As := [.int v1, .int 0, .int 9999]) dX11_isTick_6 rfl lsX11_238 ⟨Nat.le_of_ble_eq_true rfl, Nat.le_of_ble_eq_true rfl⟩ rfl (Nat.le_of_ble_eq_true rfl) (mX11_within   (s_iload_n dX11_isTick_9 rfl (Vw.mask [false, false, false] (s_callV (As := [.int (fX11_within v1 0 9999), .int v2]) dX11_isTick_10 rfl lvX11_209 ⟨Nat.le_of_ble_eq_true rfl, Nat.le_of_ble_eq_true rfl⟩ (hi.sh rfl rfl) ⟨_, _, by decide, rfl⟩ rfl (Nat.le_of_ble_eq_true rfl) (K)))))))))
theorem bX11_isTick_13 {G : GX} {h : mH} {Q : mO → mH → Prop} {vs0 : Int32} (hi : Iv h) (K : (vs0 = 0 ∨ vs0 = 1) ∧ Q (.inl (some (.int vs0))) h) : Vw G jX11_isTick 13 [none, none, none] [.int vs0] h Q :=
  s_zreturn dX11_isTick_13 rfl K.1 K.2
theorem eX11_isTick {G : GX} {h : mH} {Q : mO → mH → Prop} {v1 : Int32} {v2 : Int32} (hi : Iv h) (K : WM G jX11_right [.ref 83, .int (fX11_within v1 0 9999), .int v2] h (Aft G jX11_isTick 10 [none, none, none] [] Q)) : WM G jX11_isTick [.ref 83, .int v1, .int v2] h Q :=
  WM.body (ls := [some (.ref 83), some (.int v1), some (.int v2)]) rfl (by decide +kernel) rfl (Nat.le_of_ble_eq_true rfl) rfl ((bX11_isTick_0 hi  K))
theorem dX11_period_0 : decode cX11_period 0 = .ok (.aload_n 0, 1) := by decide +kernel
theorem dX11_period_1 : decode cX11_period 1 = .ok (.getfield 13, 3) := by decide +kernel
theorem dX11_period_4 : decode cX11_period 4 = .ok (.iload_n 3, 1) := by decide +kernel
theorem dX11_period_5 : decode cX11_period 5 = .ok (.iaload, 1) := by decide +kernel
theorem dX11_period_6 : decode cX11_period 6 = .ok (.aload_n 1, 1) := by decide +kernel
theorem dX11_period_7 : decode cX11_period 7 = .ok (.iload_n 2, 1) := by decide +kernel
theorem dX11_period_8 : decode cX11_period 8 = .ok (.iload_n 3, 1) := by decide +kernel
theorem dX11_period_9 : decode cX11_period 9 = .ok (.iadd, 1) := by decide +kernel
theorem dX11_period_10 : decode cX11_period 10 = .ok (.iaload, 1) := by decide +kernel
theorem dX11_period_11 : decode cX11_period 11 = .ok (.iadd, 1) := by decide +kernel
theorem dX11_period_12 : decode cX11_period 12 = .ok (.ireturn, 1) := by decide +kernel
theorem bX11_period_0 {G : GX} {h : mH} {Q : mO → mH → Prop} {r1 : Nat} {n1 : Nat} {v2 : Int32} {v3 : Int32} (hi : Iv h) (k1 : kd r1 = (100, n1)) (K : vp_in v3 4 ∧ (vp_in (v2 + v3) n1 ∧ Q (.inl (some (.int ((gI h 85 (Int32.toNatClampNeg v3)) + (gI h r1 (Int32.toNatClampNeg (v2 + v3))))))) h)) : Vw G jX11_period 0 [some (.ref 83), some (.ref r1), some (.int v2), some (.int v3)] [] h Q :=
  s_aload_n dX11_period_0 rfl (s_getR (v := .ref 85) dX11_period_1 flX11_13 rfl (hi.sh rfl rfl) (hi.rf (o := 83) (k := 4) (d := 2) rfl rfl) (s_iload_n dX11_period_4 rfl (s_iaload dX11_period_5 (hi.sh rfl rfl) K.1 (s_aload_n dX11_period_6 rfl (s_iload_n dX11_period_7 rfl (s_iload_n dX11_period_8 rfl (s_iadd dX11_period_9 (s_iaload dX11_period_10 (hi.sh k1 rfl) K.2.1 (s_iadd dX11_period_11 (s_ireturn dX11_period_12 rfl K.2.2))))))))))
theorem eX11_period {G : GX} {h : mH} {Q : mO → mH → Prop} {r1 : Nat} {n1 : Nat} {v2 : Int32} {v3 : Int32} (hi : Iv h) (k1 : kd r1 = (100, n1)) (K : vp_in v3 4 ∧ (vp_in (v2 + v3) n1 ∧ Q (.inl (some (.int ((gI h 85 (Int32.toNatClampNeg v3)) + (gI h r1 (Int32.toNatClampNeg (v2 + v3))))))) h)) : WM G jX11_period [.ref 83, .ref r1, .int v2, .int v3] h Q :=
  WM.body (ls := [some (.ref 83), some (.ref r1), some (.int v2), some (.int v3)]) rfl (by decide +kernel) rfl (Nat.le_of_ble_eq_true rfl) rfl ((bX11_period_0 hi k1 K))
theorem dX11_pendulum_0 : decode cX11_pendulum 0 = .ok (.aload_n 0, 1) := by decide +kernel
theorem dX11_pendulum_1 : decode cX11_pendulum 1 = .ok (.iconst 0, 1) := by decide +kernel
theorem dX11_pendulum_2 : decode cX11_pendulum 2 = .ok (.putfield 113, 3) := by decide +kernel
theorem dX11_pendulum_5 : decode cX11_pendulum 5 = .ok (.aload_n 0, 1) := by decide +kernel
theorem dX11_pendulum_6 : decode cX11_pendulum 6 = .ok (.iload_n 1, 1) := by decide +kernel
theorem dX11_pendulum_7 : decode cX11_pendulum 7 = .ok (.invokevirtual 242, 3) := by decide +kernel
theorem dX11_pendulum_10 : decode cX11_pendulum 10 = .ok (.ifCond .eq 18, 3) := by decide +kernel
theorem dX11_pendulum_13 : decode cX11_pendulum 13 = .ok (.aload_n 0, 1) := by decide +kernel
theorem dX11_pendulum_14 : decode cX11_pendulum 14 = .ok (.iload_n 2, 1) := by decide +kernel
theorem dX11_pendulum_15 : decode cX11_pendulum 15 = .ok (.iconst 0, 1) := by decide +kernel
theorem dX11_pendulum_16 : decode cX11_pendulum 16 = .ok (.bipush 6, 2) := by decide +kernel
theorem dX11_pendulum_18 : decode cX11_pendulum 18 = .ok (.invokestatic 238, 3) := by decide +kernel
theorem dX11_pendulum_21 : decode cX11_pendulum 21 = .ok (.iconst 1, 1) := by decide +kernel
theorem dX11_pendulum_22 : decode cX11_pendulum 22 = .ok (.invokevirtual 209, 3) := by decide +kernel
theorem dX11_pendulum_25 : decode cX11_pendulum 25 = .ok (.ifCond .ne 5, 3) := by decide +kernel
theorem dX11_pendulum_28 : decode cX11_pendulum 28 = .ok (.iconst 0, 1) := by decide +kernel
theorem dX11_pendulum_29 : decode cX11_pendulum 29 = .ok (.ireturn, 1) := by decide +kernel
theorem dX11_pendulum_30 : decode cX11_pendulum 30 = .ok (.iload_n 2, 1) := by decide +kernel
theorem dX11_pendulum_31 : decode cX11_pendulum 31 = .ok (.tableswitch 84 0 5 #[37, 44, 51, 61, 70, 77], 37) := by decide +kernel
theorem dX11_pendulum_68 : decode cX11_pendulum 68 = .ok (.aload_n 0, 1) := by decide +kernel
theorem dX11_pendulum_69 : decode cX11_pendulum 69 = .ok (.getfield 7, 3) := by decide +kernel
theorem dX11_pendulum_72 : decode cX11_pendulum 72 = .ok (.iload_n 1, 1) := by decide +kernel
theorem dX11_pendulum_73 : decode cX11_pendulum 73 = .ok (.iaload, 1) := by decide +kernel
theorem dX11_pendulum_74 : decode cX11_pendulum 74 = .ok (.ireturn, 1) := by decide +kernel
theorem dX11_pendulum_75 : decode cX11_pendulum 75 = .ok (.aload_n 0, 1) := by decide +kernel
theorem dX11_pendulum_76 : decode cX11_pendulum 76 = .ok (.getfield 13, 3) := by decide +kernel
theorem dX11_pendulum_79 : decode cX11_pendulum 79 = .ok (.iload_n 1, 1) := by decide +kernel
theorem dX11_pendulum_80 : decode cX11_pendulum 80 = .ok (.iaload, 1) := by decide +kernel
theorem dX11_pendulum_81 : decode cX11_pendulum 81 = .ok (.ireturn, 1) := by decide +kernel
theorem dX11_pendulum_82 : decode cX11_pendulum 82 = .ok (.aload_n 0, 1) := by decide +kernel
theorem dX11_pendulum_83 : decode cX11_pendulum 83 = .ok (.getfield 19, 3) := by decide +kernel
theorem dX11_pendulum_86 : decode cX11_pendulum 86 = .ok (.bipush 8, 2) := by decide +kernel
theorem dX11_pendulum_88 : decode cX11_pendulum 88 = .ok (.iload_n 1, 1) := by decide +kernel
theorem dX11_pendulum_89 : decode cX11_pendulum 89 = .ok (.iadd, 1) := by decide +kernel
theorem dX11_pendulum_90 : decode cX11_pendulum 90 = .ok (.iaload, 1) := by decide +kernel
theorem dX11_pendulum_91 : decode cX11_pendulum 91 = .ok (.ireturn, 1) := by decide +kernel
theorem dX11_pendulum_92 : decode cX11_pendulum 92 = .ok (.aload_n 0, 1) := by decide +kernel
theorem dX11_pendulum_93 : decode cX11_pendulum 93 = .ok (.getfield 19, 3) := by decide +kernel
theorem dX11_pendulum_96 : decode cX11_pendulum 96 = .ok (.iconst 4, 1) := by decide +kernel
theorem dX11_pendulum_97 : decode cX11_pendulum 97 = .ok (.iload_n 1, 1) := by decide +kernel
theorem dX11_pendulum_98 : decode cX11_pendulum 98 = .ok (.iadd, 1) := by decide +kernel
theorem dX11_pendulum_99 : decode cX11_pendulum 99 = .ok (.iaload, 1) := by decide +kernel
theorem dX11_pendulum_100 : decode cX11_pendulum 100 = .ok (.ireturn, 1) := by decide +kernel
theorem dX11_pendulum_101 : decode cX11_pendulum 101 = .ok (.aload_n 0, 1) := by decide +kernel
theorem dX11_pendulum_102 : decode cX11_pendulum 102 = .ok (.getfield 16, 3) := by decide +kernel
theorem dX11_pendulum_105 : decode cX11_pendulum 105 = .ok (.iload_n 1, 1) := by decide +kernel
theorem dX11_pendulum_106 : decode cX11_pendulum 106 = .ok (.iaload, 1) := by decide +kernel
theorem dX11_pendulum_107 : decode cX11_pendulum 107 = .ok (.ireturn, 1) := by decide +kernel
theorem dX11_pendulum_108 : decode cX11_pendulum 108 = .ok (.aload_n 0, 1) := by decide +kernel
theorem dX11_pendulum_109 : decode cX11_pendulum 109 = .ok (.getfield 19, 3) := by decide +kernel
theorem dX11_pendulum_112 : decode cX11_pendulum 112 = .ok (.iload_n 1, 1) := by decide +kernel
theorem dX11_pendulum_113 : decode cX11_pendulum 113 = .ok (.iaload, 1) := by decide +kernel
theorem dX11_pendulum_114 : decode cX11_pendulum 114 = .ok (.ireturn, 1) := by decide +kernel
theorem dX11_pendulum_115 : decode cX11_pendulum 115 = .ok (.aload_n 0, 1) := by decide +kernel
theorem dX11_pendulum_116 : decode cX11_pendulum 116 = .ok (.aload_n 0, 1) := by decide +kernel
theorem dX11_pendulum_117 : decode cX11_pendulum 117 = .ok (.getfield 19, 3) := by decide +kernel
theorem dX11_pendulum_120 : decode cX11_pendulum 120 = .ok (.iconst 0, 1) := by decide +kernel
theorem dX11_pendulum_121 : decode cX11_pendulum 121 = .ok (.iload_n 1, 1) := by decide +kernel
theorem dX11_pendulum_122 : decode cX11_pendulum 122 = .ok (.invokevirtual 245, 3) := by decide +kernel
theorem dX11_pendulum_125 : decode cX11_pendulum 125 = .ok (.ireturn, 1) := by decide +kernel
theorem bX11_pendulum_0 {G : GX} {h : mH} {Q : mO → mH → Prop} {v1 : Int32} {v2 : Int32} (hi : Iv h) (K : WM G jX11_isPendulum [.ref 83, .int v1] (pI h 83 0 0) (Aft G jX11_pendulum 7 [some (.ref 83), some (.int v1), some (.int v2)] [] Q)) : Vw G jX11_pendulum 0 [some (.ref 83), some (.int v1), some (.int v2)] [] h Q :=
  s_aload_n dX11_pendulum_0 rfl (s_iconst 0 dX11_pendulum_1 (by decide) (s_putI dX11_pendulum_2 flX11_113 ff10_0 rfl (hi.sh rfl rfl) (s_aload_n dX11_pendulum_5 rfl (s_iload_n dX11_pendulum_6 rfl (s_callV (As := [.int v1]) dX11_pendulum_7 rfl lvX11_242 ⟨Nat.le_of_ble_eq_true rfl, Nat.le_of_ble_eq_true rfl⟩ (hi.sh rfl rfl) ⟨_, _, by decide, rfl⟩ rfl (Nat.le_of_ble_eq_true rfl) (K))))))
theorem bX11_pendulum_10 {G : GX} {h : mH} {Q : mO → mH → Prop} {v1 : Int32} {v2 : Int32} {vs0 : Int32} (hi : Iv h) (K : (vs0 = 0 → Q (.inl (some (.int 0))) h) ∧ (¬ vs0 = 0 → WM G jX11_right [.ref 83, .int (fX11_within v2 0 6), .int 1] h (Aft G jX11_pendulum 22 [some (.ref 83), some (.int v1), some (.int v2)] [] Q))) : Vw G jX11_pendulum 10 [some (.ref 83), some (.int v1), some (.int v2)] [.int vs0] h Q :=
  s_if_eq 28 dX11_pendulum_10 rfl (fun q0 => s_iconst 0 dX11_pendulum_28 (by decide) (s_ireturn dX11_pendulum_29 rfl (K.1 q0))) (fun q0 => s_aload_n dX11_pendulum_13 rfl (s_iload_n dX11_pendulum_14 rfl (s_iconst 0 dX11_pendulum_15 (by decide) (s_bipush 6 dX11_pendulum_16 (by decide) (s_callS (As := [.int v2, .int 0, .int 6]) dX11_pendulum_18 rfl lsX11_238 ⟨Nat.le_of_ble_eq_true rfl, Nat.le_of_ble_eq_true rfl⟩ rfl (Nat.le_of_ble_eq_true rfl) (mX11_within   (s_iconst 1 dX11_pendulum_21 (by decide) (s_callV (As := [.int (fX11_within v2 0 6), .int 1]) dX11_pendulum_22 rfl lvX11_209 ⟨Nat.le_of_ble_eq_true rfl, Nat.le_of_ble_eq_true rfl⟩ (hi.sh rfl rfl) ⟨_, _, by decide, rfl⟩ rfl (Nat.le_of_ble_eq_true rfl) ((K.2 q0))))))))))
theorem bX11_pendulum_25 {G : GX} {h : mH} {Q : mO → mH → Prop} {v1 : Int32} {v2 : Int32} {vs0 : Int32} (hi : Iv h) (K : (¬ vs0 = 0 → ((v2 = 0 → (vp_in v1 4 ∧ Q (.inl (some (.int (gI h 84 (Int32.toNatClampNeg v1))))) h)) ∧ (v2 = 1 → (vp_in v1 4 ∧ Q (.inl (some (.int (gI h 85 (Int32.toNatClampNeg v1))))) h)) ∧ (v2 = 2 → (vp_in (8 + v1) 12 ∧ Q (.inl (some (.int (gI h 87 (Int32.toNatClampNeg (8 + v1)))))) h)) ∧ (v2 = 3 → (vp_in (4 + v1) 12 ∧ Q (.inl (some (.int (gI h 87 (Int32.toNatClampNeg (4 + v1)))))) h)) ∧ (v2 = 4 → (vp_in v1 4 ∧ Q (.inl (some (.int (gI h 86 (Int32.toNatClampNeg v1))))) h)) ∧ (v2 = 5 → (vp_in v1 12 ∧ Q (.inl (some (.int (gI h 87 (Int32.toNatClampNeg v1))))) h)) ∧ (¬ v2 = 0 → ¬ v2 = 1 → ¬ v2 = 2 → ¬ v2 = 3 → ¬ v2 = 4 → ¬ v2 = 5 → WM G jX11_period [.ref 83, .ref 87, .int 0, .int v1] h (Aft G jX11_pendulum 122 [none, none, none] [] Q)))) ∧ (vs0 = 0 → Q (.inl (some (.int 0))) h)) : Vw G jX11_pendulum 25 [some (.ref 83), some (.int v1), some (.int v2)] [.int vs0] h Q :=
  s_if_ne 30 dX11_pendulum_25 rfl (fun q0 => s_iload_n dX11_pendulum_30 rfl (Decidable.byCases (fun e2_0 => s_tableIn 68 dX11_pendulum_31 (by rw [e2_0] <;> decide) (by rw [e2_0] <;> decide) (by rw [e2_0] <;> rfl) rfl (s_aload_n dX11_pendulum_68 rfl (s_getR (v := .ref 84) dX11_pendulum_69 flX11_7 rfl (hi.sh rfl rfl) (hi.rf (o := 83) (k := 3) (d := 1) rfl rfl) (s_iload_n dX11_pendulum_72 rfl (s_iaload dX11_pendulum_73 (hi.sh rfl rfl) ((K.1 q0).1 e2_0).1 (s_ireturn dX11_pendulum_74 rfl ((K.1 q0).1 e2_0).2)))))) (fun e2_0 => Decidable.byCases (fun e2_1 => s_tableIn 75 dX11_pendulum_31 (by rw [e2_1] <;> decide) (by rw [e2_1] <;> decide) (by rw [e2_1] <;> rfl) rfl (s_aload_n dX11_pendulum_75 rfl (s_getR (v := .ref 85) dX11_pendulum_76 flX11_13 rfl (hi.sh rfl rfl) (hi.rf (o := 83) (k := 4) (d := 2) rfl rfl) (s_iload_n dX11_pendulum_79 rfl (s_iaload dX11_pendulum_80 (hi.sh rfl rfl) ((K.1 q0).2.1 e2_1).1 (s_ireturn dX11_pendulum_81 rfl ((K.1 q0).2.1 e2_1).2)))))) (fun e2_1 => Decidable.byCases (fun e2_2 => s_tableIn 82 dX11_pendulum_31 (by rw [e2_2] <;> decide) (by rw [e2_2] <;> decide) (by rw [e2_2] <;> rfl) rfl (s_aload_n dX11_pendulum_82 rfl (s_getR (v := .ref 87) dX11_pendulum_83 flX11_19 rfl (hi.sh rfl rfl) (hi.rf (o := 83) (k := 6) (d := 4) rfl rfl) (s_bipush 8 dX11_pendulum_86 (by decide) (s_iload_n dX11_pendulum_88 rfl (s_iadd dX11_pendulum_89 (s_iaload dX11_pendulum_90 (hi.sh rfl rfl) ((K.1 q0).2.2.1 e2_2).1 (s_ireturn dX11_pendulum_91 rfl ((K.1 q0).2.2.1 e2_2).2)))))))) (fun e2_2 => Decidable.byCases (fun e2_3 => s_tableIn 92 dX11_pendulum_31 (by rw [e2_3] <;> decide) (by rw [e2_3] <;> decide) (by rw [e2_3] <;> rfl) rfl (s_aload_n dX11_pendulum_92 rfl (s_getR (v := .ref 87) dX11_pendulum_93 flX11_19 rfl (hi.sh rfl rfl) (hi.rf (o := 83) (k := 6) (d := 4) rfl rfl) (s_iconst 4 dX11_pendulum_96 (by decide) (s_iload_n dX11_pendulum_97 rfl (s_iadd dX11_pendulum_98 (s_iaload dX11_pendulum_99 (hi.sh rfl rfl) ((K.1 q0).2.2.2.1 e2_3).1 (s_ireturn dX11_pendulum_100 rfl ((K.1 q0).2.2.2.1 e2_3).2)))))))) (fun e2_3 => Decidable.byCases (fun e2_4 => s_tableIn 101 dX11_pendulum_31 (by rw [e2_4] <;> decide) (by rw [e2_4] <;> decide) (by rw [e2_4] <;> rfl) rfl (s_aload_n dX11_pendulum_101 rfl (s_getR (v := .ref 86) dX11_pendulum_102 flX11_16 rfl (hi.sh rfl rfl) (hi.rf (o := 83) (k := 5) (d := 3) rfl rfl) (s_iload_n dX11_pendulum_105 rfl (s_iaload dX11_pendulum_106 (hi.sh rfl rfl) ((K.1 q0).2.2.2.2.1 e2_4).1 (s_ireturn dX11_pendulum_107 rfl ((K.1 q0).2.2.2.2.1 e2_4).2)))))) (fun e2_4 => Decidable.byCases (fun e2_5 => s_tableIn 108 dX11_pendulum_31 (by rw [e2_5] <;> decide) (by rw [e2_5] <;> decide) (by rw [e2_5] <;> rfl) rfl (s_aload_n dX11_pendulum_108 rfl (s_getR (v := .ref 87) dX11_pendulum_109 flX11_19 rfl (hi.sh rfl rfl) (hi.rf (o := 83) (k := 6) (d := 4) rfl rfl) (s_iload_n dX11_pendulum_112 rfl (s_iaload dX11_pendulum_113 (hi.sh rfl rfl) ((K.1 q0).2.2.2.2.2.1 e2_5).1 (s_ireturn dX11_pendulum_114 rfl ((K.1 q0).2.2.2.2.2.1 e2_5).2)))))) (fun e2_5 => s_tableOut 115 dX11_pendulum_31 (sw_out [0, 1, 2, 3, 4, 5] (by simp only [List.forall_mem_cons]; exact ⟨e2_0, e2_1, e2_2, e2_3, e2_4, e2_5, fun _ hh => nomatch hh⟩) (fun k z1 z2 => by rcases (show k = 0 ∨ k = 1 ∨ k = 2 ∨ k = 3 ∨ k = 4 ∨ k = 5 by omega) with rfl | rfl | rfl | rfl | rfl | rfl <;> decide)) rfl (s_aload_n dX11_pendulum_115 rfl (s_aload_n dX11_pendulum_116 rfl (s_getR (v := .ref 87) dX11_pendulum_117 flX11_19 rfl (hi.sh rfl rfl) (hi.rf (o := 83) (k := 6) (d := 4) rfl rfl) (s_iconst 0 dX11_pendulum_120 (by decide) (s_iload_n dX11_pendulum_121 rfl (Vw.mask [false, false, false] (s_callV (As := [.ref 87, .int 0, .int v1]) dX11_pendulum_122 rfl lvX11_245 ⟨Nat.le_of_ble_eq_true rfl, Nat.le_of_ble_eq_true rfl⟩ (hi.sh rfl rfl) ⟨_, _, by decide, rfl⟩ rfl (Nat.le_of_ble_eq_true rfl) (((K.1 q0).2.2.2.2.2.2 e2_0 e2_1 e2_2 e2_3 e2_4 e2_5))))))))))))))))) (fun q0 => s_iconst 0 dX11_pendulum_28 (by decide) (s_ireturn dX11_pendulum_29 rfl (K.2 q0)))
theorem bX11_pendulum_125 {G : GX} {h : mH} {Q : mO → mH → Prop} {vs0 : Int32} (hi : Iv h) (K : Q (.inl (some (.int vs0))) h) : Vw G jX11_pendulum 125 [none, none, none] [.int vs0] h Q :=
  s_ireturn dX11_pendulum_125 rfl K
theorem eX11_pendulum {G : GX} {h : mH} {Q : mO → mH → Prop} {v1 : Int32} {v2 : Int32} (hi : Iv h) (K : WM G jX11_isPendulum [.ref 83, .int v1] (pI h 83 0 0) (Aft G jX11_pendulum 7 [some (.ref 83), some (.int v1), some (.int v2)] [] Q)) : WM G jX11_pendulum [.ref 83, .int v1, .int v2] h Q :=
  WM.body (ls := [some (.ref 83), some (.int v1), some (.int v2)]) rfl (by decide +kernel) rfl (Nat.le_of_ble_eq_true rfl) rfl ((bX11_pendulum_0 hi  K))
theorem dX11_refuses_0 : decode cX11_refuses 0 = .ok (.aload_n 0, 1) := by decide +kernel
theorem dX11_refuses_1 : decode cX11_refuses 1 = .ok (.getfield 32, 3) := by decide +kernel
theorem dX11_refuses_4 : decode cX11_refuses 4 = .ok (.iload_n 1, 1) := by decide +kernel
theorem dX11_refuses_5 : decode cX11_refuses 5 = .ok (.dup2, 1) := by decide +kernel
theorem dX11_refuses_6 : decode cX11_refuses 6 = .ok (.iaload, 1) := by decide +kernel
theorem dX11_refuses_7 : decode cX11_refuses 7 = .ok (.iconst 1, 1) := by decide +kernel
theorem dX11_refuses_8 : decode cX11_refuses 8 = .ok (.iadd, 1) := by decide +kernel
theorem dX11_refuses_9 : decode cX11_refuses 9 = .ok (.iastore, 1) := by decide +kernel
theorem dX11_refuses_10 : decode cX11_refuses 10 = .ok (.iconst (-1), 1) := by decide +kernel
theorem dX11_refuses_11 : decode cX11_refuses 11 = .ok (.ireturn, 1) := by decide +kernel
theorem bX11_refuses_0 {G : GX} {h : mH} {Q : mO → mH → Prop} {v1 : Int32} (hi : Iv h) (K : vp_in v1 5 ∧ (vp_in v1 5 ∧ Q (.inl (some (.int (-1)))) (pI h 90 (Int32.toNatClampNeg v1) ((gI h 90 (Int32.toNatClampNeg v1)) + 1)))) : Vw G jX11_refuses 0 [some (.ref 83), some (.int v1)] [] h Q :=
  s_aload_n dX11_refuses_0 rfl (s_getR (v := .ref 90) dX11_refuses_1 flX11_32 rfl (hi.sh rfl rfl) (hi.rf (o := 83) (k := 12) (d := 7) rfl rfl) (s_iload_n dX11_refuses_4 rfl (s_dup2ir dX11_refuses_5 (s_iaload dX11_refuses_6 (hi.sh rfl rfl) K.1 (s_iconst 1 dX11_refuses_7 (by decide) (s_iadd dX11_refuses_8 (s_iastore dX11_refuses_9 (hi.sh rfl rfl) K.2.1 (s_iconst (-1) dX11_refuses_10 (by decide) (s_ireturn dX11_refuses_11 rfl K.2.2)))))))))
theorem eX11_refuses {G : GX} {h : mH} {Q : mO → mH → Prop} {v1 : Int32} (hi : Iv h) (K : vp_in v1 5 ∧ (vp_in v1 5 ∧ Q (.inl (some (.int (-1)))) (pI h 90 (Int32.toNatClampNeg v1) ((gI h 90 (Int32.toNatClampNeg v1)) + 1)))) : WM G jX11_refuses [.ref 83, .int v1] h Q :=
  WM.body (ls := [some (.ref 83), some (.int v1)]) rfl (by decide +kernel) rfl (Nat.le_of_ble_eq_true rfl) rfl ((bX11_refuses_0 hi  K))
theorem dX11_set_0 : decode cX11_set 0 = .ok (.aload_n 0, 1) := by decide +kernel
theorem dX11_set_1 : decode cX11_set 1 = .ok (.iconst 0, 1) := by decide +kernel
theorem dX11_set_2 : decode cX11_set 2 = .ok (.putfield 113, 3) := by decide +kernel
theorem dX11_set_5 : decode cX11_set 5 = .ok (.aload_n 0, 1) := by decide +kernel
theorem dX11_set_6 : decode cX11_set 6 = .ok (.iload_n 1, 1) := by decide +kernel
theorem dX11_set_7 : decode cX11_set 7 = .ok (.invokevirtual 242, 3) := by decide +kernel
theorem dX11_set_10 : decode cX11_set 10 = .ok (.ifCond .eq 17, 3) := by decide +kernel
theorem dX11_set_13 : decode cX11_set 13 = .ok (.aload_n 0, 1) := by decide +kernel
theorem dX11_set_14 : decode cX11_set 14 = .ok (.iload_n 2, 1) := by decide +kernel
theorem dX11_set_15 : decode cX11_set 15 = .ok (.iconst 0, 1) := by decide +kernel
theorem dX11_set_16 : decode cX11_set 16 = .ok (.iconst 2, 1) := by decide +kernel
theorem dX11_set_17 : decode cX11_set 17 = .ok (.invokestatic 238, 3) := by decide +kernel
theorem dX11_set_20 : decode cX11_set 20 = .ok (.iconst 1, 1) := by decide +kernel
theorem dX11_set_21 : decode cX11_set 21 = .ok (.invokevirtual 209, 3) := by decide +kernel
theorem dX11_set_24 : decode cX11_set 24 = .ok (.ifCond .ne 5, 3) := by decide +kernel
theorem dX11_set_27 : decode cX11_set 27 = .ok (.iconst 0, 1) := by decide +kernel
theorem dX11_set_28 : decode cX11_set 28 = .ok (.ireturn, 1) := by decide +kernel
theorem dX11_set_29 : decode cX11_set 29 = .ok (.iload_n 3, 1) := by decide +kernel
theorem dX11_set_30 : decode cX11_set 30 = .ok (.iconst 0, 1) := by decide +kernel
theorem dX11_set_31 : decode cX11_set 31 = .ok (.iload_n 2, 1) := by decide +kernel
theorem dX11_set_32 : decode cX11_set 32 = .ok (.ifCond .ne 8, 3) := by decide +kernel
theorem dX11_set_35 : decode cX11_set 35 = .ok (.bipush 9, 2) := by decide +kernel
theorem dX11_set_37 : decode cX11_set 37 = .ok (.goto 15, 3) := by decide +kernel
theorem dX11_set_40 : decode cX11_set 40 = .ok (.iload_n 2, 1) := by decide +kernel
theorem dX11_set_41 : decode cX11_set 41 = .ok (.iconst 1, 1) := by decide +kernel
theorem dX11_set_42 : decode cX11_set 42 = .ok (.if_icmp .ne 8, 3) := by decide +kernel
theorem dX11_set_45 : decode cX11_set 45 = .ok (.bipush 99, 2) := by decide +kernel
theorem dX11_set_47 : decode cX11_set 47 = .ok (.goto 5, 3) := by decide +kernel
theorem dX11_set_50 : decode cX11_set 50 = .ok (.bipush 90, 2) := by decide +kernel
theorem dX11_set_52 : decode cX11_set 52 = .ok (.invokestatic 238, 3) := by decide +kernel
theorem dX11_set_55 : decode cX11_set 55 = .ok (.ifCond .ne 9, 3) := by decide +kernel
theorem dX11_set_58 : decode cX11_set 58 = .ok (.aload_n 0, 1) := by decide +kernel
theorem dX11_set_59 : decode cX11_set 59 = .ok (.iconst 1, 1) := by decide +kernel
theorem dX11_set_60 : decode cX11_set 60 = .ok (.invokevirtual 249, 3) := by decide +kernel
theorem dX11_set_63 : decode cX11_set 63 = .ok (.ireturn, 1) := by decide +kernel
theorem dX11_set_64 : decode cX11_set 64 = .ok (.aload_n 0, 1) := by decide +kernel
theorem dX11_set_65 : decode cX11_set 65 = .ok (.getfield 19, 3) := by decide +kernel
theorem dX11_set_68 : decode cX11_set 68 = .ok (.iconst 4, 1) := by decide +kernel
theorem dX11_set_69 : decode cX11_set 69 = .ok (.iload_n 2, 1) := by decide +kernel
theorem dX11_set_70 : decode cX11_set 70 = .ok (.imul, 1) := by decide +kernel
theorem dX11_set_71 : decode cX11_set 71 = .ok (.iload_n 1, 1) := by decide +kernel
theorem dX11_set_72 : decode cX11_set 72 = .ok (.iadd, 1) := by decide +kernel
theorem dX11_set_73 : decode cX11_set 73 = .ok (.iaload, 1) := by decide +kernel
theorem dX11_set_74 : decode cX11_set 74 = .ok (.istore 4, 2) := by decide +kernel
theorem dX11_set_76 : decode cX11_set 76 = .ok (.aload_n 0, 1) := by decide +kernel
theorem dX11_set_77 : decode cX11_set 77 = .ok (.getfield 19, 3) := by decide +kernel
theorem dX11_set_80 : decode cX11_set 80 = .ok (.iconst 4, 1) := by decide +kernel
theorem dX11_set_81 : decode cX11_set 81 = .ok (.iload_n 2, 1) := by decide +kernel
theorem dX11_set_82 : decode cX11_set 82 = .ok (.imul, 1) := by decide +kernel
theorem dX11_set_83 : decode cX11_set 83 = .ok (.iload_n 1, 1) := by decide +kernel
theorem dX11_set_84 : decode cX11_set 84 = .ok (.iadd, 1) := by decide +kernel
theorem dX11_set_85 : decode cX11_set 85 = .ok (.iload_n 3, 1) := by decide +kernel
theorem dX11_set_86 : decode cX11_set 86 = .ok (.iastore, 1) := by decide +kernel
theorem dX11_set_87 : decode cX11_set 87 = .ok (.iload 4, 2) := by decide +kernel
theorem dX11_set_89 : decode cX11_set 89 = .ok (.ireturn, 1) := by decide +kernel
theorem bX11_set_0 {G : GX} {h : mH} {Q : mO → mH → Prop} {v1 : Int32} {v2 : Int32} {v3 : Int32} (hi : Iv h) (K : WM G jX11_isPendulum [.ref 83, .int v1] (pI h 83 0 0) (Aft G jX11_set 7 [some (.ref 83), some (.int v1), some (.int v2), some (.int v3), none] [] Q)) : Vw G jX11_set 0 [some (.ref 83), some (.int v1), some (.int v2), some (.int v3), none] [] h Q :=
  s_aload_n dX11_set_0 rfl (s_iconst 0 dX11_set_1 (by decide) (s_putI dX11_set_2 flX11_113 ff10_0 rfl (hi.sh rfl rfl) (s_aload_n dX11_set_5 rfl (s_iload_n dX11_set_6 rfl (s_callV (As := [.int v1]) dX11_set_7 rfl lvX11_242 ⟨Nat.le_of_ble_eq_true rfl, Nat.le_of_ble_eq_true rfl⟩ (hi.sh rfl rfl) ⟨_, _, by decide, rfl⟩ rfl (Nat.le_of_ble_eq_true rfl) (K))))))
theorem bX11_set_10 {G : GX} {h : mH} {Q : mO → mH → Prop} {v1 : Int32} {v2 : Int32} {v3 : Int32} {vs0 : Int32} (hi : Iv h) (K : (vs0 = 0 → Q (.inl (some (.int 0))) h) ∧ (¬ vs0 = 0 → WM G jX11_right [.ref 83, .int (fX11_within v2 0 2), .int 1] h (Aft G jX11_set 21 [some (.ref 83), some (.int v1), some (.int v2), some (.int v3), none] [] Q))) : Vw G jX11_set 10 [some (.ref 83), some (.int v1), some (.int v2), some (.int v3), none] [.int vs0] h Q :=
  s_if_eq 27 dX11_set_10 rfl (fun q0 => s_iconst 0 dX11_set_27 (by decide) (s_ireturn dX11_set_28 rfl (K.1 q0))) (fun q0 => s_aload_n dX11_set_13 rfl (s_iload_n dX11_set_14 rfl (s_iconst 0 dX11_set_15 (by decide) (s_iconst 2 dX11_set_16 (by decide) (s_callS (As := [.int v2, .int 0, .int 2]) dX11_set_17 rfl lsX11_238 ⟨Nat.le_of_ble_eq_true rfl, Nat.le_of_ble_eq_true rfl⟩ rfl (Nat.le_of_ble_eq_true rfl) (mX11_within   (s_iconst 1 dX11_set_20 (by decide) (s_callV (As := [.int (fX11_within v2 0 2), .int 1]) dX11_set_21 rfl lvX11_209 ⟨Nat.le_of_ble_eq_true rfl, Nat.le_of_ble_eq_true rfl⟩ (hi.sh rfl rfl) ⟨_, _, by decide, rfl⟩ rfl (Nat.le_of_ble_eq_true rfl) ((K.2 q0))))))))))
theorem bX11_set_24 {G : GX} {h : mH} {Q : mO → mH → Prop} {v1 : Int32} {v2 : Int32} {v3 : Int32} {vs0 : Int32} (hi : Iv h) (K : (¬ vs0 = 0 → ((¬ v2 = 0 → ((¬ v2 = 1 → ((¬ (fX11_within v3 0 90) = 0 → (vp_in ((4 * v2) + v1) 12 ∧ (vp_in ((4 * v2) + v1) 12 ∧ Q (.inl (some (.int (gI h 87 (Int32.toNatClampNeg ((4 * v2) + v1)))))) (pI h 87 (Int32.toNatClampNeg ((4 * v2) + v1)) v3)))) ∧ ((fX11_within v3 0 90) = 0 → WM G jX11_refuses [.ref 83, .int 1] h (Aft G jX11_set 60 [none, none, none, none, none] [] Q)))) ∧ (v2 = 1 → ((¬ (fX11_within v3 0 99) = 0 → (vp_in ((4 * v2) + v1) 12 ∧ (vp_in ((4 * v2) + v1) 12 ∧ Q (.inl (some (.int (gI h 87 (Int32.toNatClampNeg ((4 * v2) + v1)))))) (pI h 87 (Int32.toNatClampNeg ((4 * v2) + v1)) v3)))) ∧ ((fX11_within v3 0 99) = 0 → WM G jX11_refuses [.ref 83, .int 1] h (Aft G jX11_set 60 [none, none, none, none, none] [] Q)))))) ∧ (v2 = 0 → ((¬ (fX11_within v3 0 9) = 0 → (vp_in ((4 * v2) + v1) 12 ∧ (vp_in ((4 * v2) + v1) 12 ∧ Q (.inl (some (.int (gI h 87 (Int32.toNatClampNeg ((4 * v2) + v1)))))) (pI h 87 (Int32.toNatClampNeg ((4 * v2) + v1)) v3)))) ∧ ((fX11_within v3 0 9) = 0 → WM G jX11_refuses [.ref 83, .int 1] h (Aft G jX11_set 60 [none, none, none, none, none] [] Q)))))) ∧ (vs0 = 0 → Q (.inl (some (.int 0))) h)) : Vw G jX11_set 24 [some (.ref 83), some (.int v1), some (.int v2), some (.int v3), none] [.int vs0] h Q :=
  s_if_ne 29 dX11_set_24 rfl (fun q0 => s_iload_n dX11_set_29 rfl (s_iconst 0 dX11_set_30 (by decide) (s_iload_n dX11_set_31 rfl (s_if_ne 40 dX11_set_32 rfl (fun q4 => s_iload_n dX11_set_40 rfl (s_iconst 1 dX11_set_41 (by decide) (s_icmp_ne 50 dX11_set_42 rfl (fun q7 => s_bipush 90 dX11_set_50 (by decide) (s_callS (As := [.int v3, .int 0, .int 90]) dX11_set_52 rfl lsX11_238 ⟨Nat.le_of_ble_eq_true rfl, Nat.le_of_ble_eq_true rfl⟩ rfl (Nat.le_of_ble_eq_true rfl) (mX11_within   (s_if_ne 64 dX11_set_55 rfl (fun q10 => s_aload_n dX11_set_64 rfl (s_getR (v := .ref 87) dX11_set_65 flX11_19 rfl (hi.sh rfl rfl) (hi.rf (o := 83) (k := 6) (d := 4) rfl rfl) (s_iconst 4 dX11_set_68 (by decide) (s_iload_n dX11_set_69 rfl (s_imul dX11_set_70 (s_iload_n dX11_set_71 rfl (s_iadd dX11_set_72 (s_iaload dX11_set_73 (hi.sh rfl rfl) ((((K.1 q0).1 q4).1 q7).1 q10).1 (s_istore dX11_set_74 (Nat.le_of_ble_eq_true rfl) rfl (s_aload_n dX11_set_76 rfl (s_getR (v := .ref 87) dX11_set_77 flX11_19 rfl (hi.sh rfl rfl) (hi.rf (o := 83) (k := 6) (d := 4) rfl rfl) (s_iconst 4 dX11_set_80 (by decide) (s_iload_n dX11_set_81 rfl (s_imul dX11_set_82 (s_iload_n dX11_set_83 rfl (s_iadd dX11_set_84 (s_iload_n dX11_set_85 rfl (s_iastore dX11_set_86 (hi.sh rfl rfl) ((((K.1 q0).1 q4).1 q7).1 q10).2.1 (s_iload dX11_set_87 rfl (s_ireturn dX11_set_89 rfl ((((K.1 q0).1 q4).1 q7).1 q10).2.2)))))))))))))))))))) (fun q10 => s_aload_n dX11_set_58 rfl (s_iconst 1 dX11_set_59 (by decide) (Vw.mask [false, false, false, false, false] (s_callV (As := [.int 1]) dX11_set_60 rfl lvX11_249 ⟨Nat.le_of_ble_eq_true rfl, Nat.le_of_ble_eq_true rfl⟩ (hi.sh rfl rfl) ⟨_, _, by decide, rfl⟩ rfl (Nat.le_of_ble_eq_true rfl) (((((K.1 q0).1 q4).1 q7).2 q10)))))))))) (fun q7 => s_bipush 99 dX11_set_45 (by decide) (s_goto 52 dX11_set_47 rfl (s_callS (As := [.int v3, .int 0, .int 99]) dX11_set_52 rfl lsX11_238 ⟨Nat.le_of_ble_eq_true rfl, Nat.le_of_ble_eq_true rfl⟩ rfl (Nat.le_of_ble_eq_true rfl) (mX11_within   (s_if_ne 64 dX11_set_55 rfl (fun q11 => s_aload_n dX11_set_64 rfl (s_getR (v := .ref 87) dX11_set_65 flX11_19 rfl (hi.sh rfl rfl) (hi.rf (o := 83) (k := 6) (d := 4) rfl rfl) (s_iconst 4 dX11_set_68 (by decide) (s_iload_n dX11_set_69 rfl (s_imul dX11_set_70 (s_iload_n dX11_set_71 rfl (s_iadd dX11_set_72 (s_iaload dX11_set_73 (hi.sh rfl rfl) ((((K.1 q0).1 q4).2 q7).1 q11).1 (s_istore dX11_set_74 (Nat.le_of_ble_eq_true rfl) rfl (s_aload_n dX11_set_76 rfl (s_getR (v := .ref 87) dX11_set_77 flX11_19 rfl (hi.sh rfl rfl) (hi.rf (o := 83) (k := 6) (d := 4) rfl rfl) (s_iconst 4 dX11_set_80 (by decide) (s_iload_n dX11_set_81 rfl (s_imul dX11_set_82 (s_iload_n dX11_set_83 rfl (s_iadd dX11_set_84 (s_iload_n dX11_set_85 rfl (s_iastore dX11_set_86 (hi.sh rfl rfl) ((((K.1 q0).1 q4).2 q7).1 q11).2.1 (s_iload dX11_set_87 rfl (s_ireturn dX11_set_89 rfl ((((K.1 q0).1 q4).2 q7).1 q11).2.2)))))))))))))))))))) (fun q11 => s_aload_n dX11_set_58 rfl (s_iconst 1 dX11_set_59 (by decide) (Vw.mask [false, false, false, false, false] (s_callV (As := [.int 1]) dX11_set_60 rfl lvX11_249 ⟨Nat.le_of_ble_eq_true rfl, Nat.le_of_ble_eq_true rfl⟩ (hi.sh rfl rfl) ⟨_, _, by decide, rfl⟩ rfl (Nat.le_of_ble_eq_true rfl) (((((K.1 q0).1 q4).2 q7).2 q11)))))))))))))) (fun q4 => s_bipush 9 dX11_set_35 (by decide) (s_goto 52 dX11_set_37 rfl (s_callS (As := [.int v3, .int 0, .int 9]) dX11_set_52 rfl lsX11_238 ⟨Nat.le_of_ble_eq_true rfl, Nat.le_of_ble_eq_true rfl⟩ rfl (Nat.le_of_ble_eq_true rfl) (mX11_within   (s_if_ne 64 dX11_set_55 rfl (fun q8 => s_aload_n dX11_set_64 rfl (s_getR (v := .ref 87) dX11_set_65 flX11_19 rfl (hi.sh rfl rfl) (hi.rf (o := 83) (k := 6) (d := 4) rfl rfl) (s_iconst 4 dX11_set_68 (by decide) (s_iload_n dX11_set_69 rfl (s_imul dX11_set_70 (s_iload_n dX11_set_71 rfl (s_iadd dX11_set_72 (s_iaload dX11_set_73 (hi.sh rfl rfl) (((K.1 q0).2 q4).1 q8).1 (s_istore dX11_set_74 (Nat.le_of_ble_eq_true rfl) rfl (s_aload_n dX11_set_76 rfl (s_getR (v := .ref 87) dX11_set_77 flX11_19 rfl (hi.sh rfl rfl) (hi.rf (o := 83) (k := 6) (d := 4) rfl rfl) (s_iconst 4 dX11_set_80 (by decide) (s_iload_n dX11_set_81 rfl (s_imul dX11_set_82 (s_iload_n dX11_set_83 rfl (s_iadd dX11_set_84 (s_iload_n dX11_set_85 rfl (s_iastore dX11_set_86 (hi.sh rfl rfl) (((K.1 q0).2 q4).1 q8).2.1 (s_iload dX11_set_87 rfl (s_ireturn dX11_set_89 rfl (((K.1 q0).2 q4).1 q8).2.2)))))))))))))))))))) (fun q8 => s_aload_n dX11_set_58 rfl (s_iconst 1 dX11_set_59 (by decide) (Vw.mask [false, false, false, false, false] (s_callV (As := [.int 1]) dX11_set_60 rfl lvX11_249 ⟨Nat.le_of_ble_eq_true rfl, Nat.le_of_ble_eq_true rfl⟩ (hi.sh rfl rfl) ⟨_, _, by decide, rfl⟩ rfl (Nat.le_of_ble_eq_true rfl) ((((K.1 q0).2 q4).2 q8))))))))))))))) (fun q0 => s_iconst 0 dX11_set_27 (by decide) (s_ireturn dX11_set_28 rfl (K.2 q0)))
theorem bX11_set_63 {G : GX} {h : mH} {Q : mO → mH → Prop} {vs0 : Int32} (hi : Iv h) (K : Q (.inl (some (.int vs0))) h) : Vw G jX11_set 63 [none, none, none, none, none] [.int vs0] h Q :=
  s_ireturn dX11_set_63 rfl K
theorem eX11_set {G : GX} {h : mH} {Q : mO → mH → Prop} {v1 : Int32} {v2 : Int32} {v3 : Int32} (hi : Iv h) (K : WM G jX11_isPendulum [.ref 83, .int v1] (pI h 83 0 0) (Aft G jX11_set 7 [some (.ref 83), some (.int v1), some (.int v2), some (.int v3), none] [] Q)) : WM G jX11_set [.ref 83, .int v1, .int v2, .int v3] h Q :=
  WM.body (ls := [some (.ref 83), some (.int v1), some (.int v2), some (.int v3), none]) rfl (by decide +kernel) rfl (Nat.le_of_ble_eq_true rfl) rfl ((bX11_set_0 hi  K))
theorem dX11_at_0 : decode cX11_at 0 = .ok (.aload_n 0, 1) := by decide +kernel
theorem dX11_at_1 : decode cX11_at 1 = .ok (.aload_n 1, 1) := by decide +kernel
theorem dX11_at_2 : decode cX11_at 2 = .ok (.iload_n 2, 1) := by decide +kernel
theorem dX11_at_3 : decode cX11_at 3 = .ok (.iload_n 3, 1) := by decide +kernel
theorem dX11_at_4 : decode cX11_at 4 = .ok (.invokevirtual 245, 3) := by decide +kernel
theorem dX11_at_7 : decode cX11_at 7 = .ok (.istore 5, 2) := by decide +kernel
theorem dX11_at_9 : decode cX11_at 9 = .ok (.iload 4, 2) := by decide +kernel
theorem dX11_at_11 : decode cX11_at 11 = .ok (.aload_n 1, 1) := by decide +kernel
theorem dX11_at_12 : decode cX11_at 12 = .ok (.iload_n 2, 1) := by decide +kernel
theorem dX11_at_13 : decode cX11_at 13 = .ok (.iconst 4, 1) := by decide +kernel
theorem dX11_at_14 : decode cX11_at 14 = .ok (.iadd, 1) := by decide +kernel
theorem dX11_at_15 : decode cX11_at 15 = .ok (.iload_n 3, 1) := by decide +kernel
theorem dX11_at_16 : decode cX11_at 16 = .ok (.iadd, 1) := by decide +kernel
theorem dX11_at_17 : decode cX11_at 17 = .ok (.iaload, 1) := by decide +kernel
theorem dX11_at_18 : decode cX11_at 18 = .ok (.iadd, 1) := by decide +kernel
theorem dX11_at_19 : decode cX11_at 19 = .ok (.iload 5, 2) := by decide +kernel
theorem dX11_at_21 : decode cX11_at 21 = .ok (.irem, 1) := by decide +kernel
theorem dX11_at_22 : decode cX11_at 22 = .ok (.istore 6, 2) := by decide +kernel
theorem dX11_at_24 : decode cX11_at 24 = .ok (.aload_n 1, 1) := by decide +kernel
theorem dX11_at_25 : decode cX11_at 25 = .ok (.iload_n 2, 1) := by decide +kernel
theorem dX11_at_26 : decode cX11_at 26 = .ok (.bipush 8, 2) := by decide +kernel
theorem dX11_at_28 : decode cX11_at 28 = .ok (.iadd, 1) := by decide +kernel
theorem dX11_at_29 : decode cX11_at 29 = .ok (.iload_n 3, 1) := by decide +kernel
theorem dX11_at_30 : decode cX11_at 30 = .ok (.iadd, 1) := by decide +kernel
theorem dX11_at_31 : decode cX11_at 31 = .ok (.iaload, 1) := by decide +kernel
theorem dX11_at_32 : decode cX11_at 32 = .ok (.istore 7, 2) := by decide +kernel
theorem dX11_at_34 : decode cX11_at 34 = .ok (.iload 4, 2) := by decide +kernel
theorem dX11_at_36 : decode cX11_at 36 = .ok (.iload 5, 2) := by decide +kernel
theorem dX11_at_38 : decode cX11_at 38 = .ok (.idiv, 1) := by decide +kernel
theorem dX11_at_39 : decode cX11_at 39 = .ok (.istore 8, 2) := by decide +kernel
theorem dX11_at_41 : decode cX11_at 41 = .ok (.iload 8, 2) := by decide +kernel
theorem dX11_at_43 : decode cX11_at 43 = .ok (.ifCond .le 40, 3) := by decide +kernel
theorem dX11_at_46 : decode cX11_at 46 = .ok (.iload 7, 2) := by decide +kernel
theorem dX11_at_48 : decode cX11_at 48 = .ok (.ifCond .le 35, 3) := by decide +kernel
theorem dX11_at_51 : decode cX11_at 51 = .ok (.aload_n 0, 1) := by decide +kernel
theorem dX11_at_52 : decode cX11_at 52 = .ok (.getfield 16, 3) := by decide +kernel
theorem dX11_at_55 : decode cX11_at 55 = .ok (.iload_n 3, 1) := by decide +kernel
theorem dX11_at_56 : decode cX11_at 56 = .ok (.iaload, 1) := by decide +kernel
theorem dX11_at_57 : decode cX11_at 57 = .ok (.ifCond .le 26, 3) := by decide +kernel
theorem dX11_at_60 : decode cX11_at 60 = .ok (.iload 7, 2) := by decide +kernel
theorem dX11_at_62 : decode cX11_at 62 = .ok (.bipush 100, 2) := by decide +kernel
theorem dX11_at_64 : decode cX11_at 64 = .ok (.aload_n 0, 1) := by decide +kernel
theorem dX11_at_65 : decode cX11_at 65 = .ok (.getfield 16, 3) := by decide +kernel
theorem dX11_at_68 : decode cX11_at 68 = .ok (.iload_n 3, 1) := by decide +kernel
theorem dX11_at_69 : decode cX11_at 69 = .ok (.iaload, 1) := by decide +kernel
theorem dX11_at_70 : decode cX11_at 70 = .ok (.isub, 1) := by decide +kernel
theorem dX11_at_71 : decode cX11_at 71 = .ok (.imul, 1) := by decide +kernel
theorem dX11_at_72 : decode cX11_at 72 = .ok (.bipush 100, 2) := by decide +kernel
theorem dX11_at_74 : decode cX11_at 74 = .ok (.idiv, 1) := by decide +kernel
theorem dX11_at_75 : decode cX11_at 75 = .ok (.istore 7, 2) := by decide +kernel
theorem dX11_at_77 : decode cX11_at 77 = .ok (.iinc 8 (-1), 3) := by decide +kernel
theorem dX11_at_80 : decode cX11_at 80 = .ok (.goto (-39), 3) := by decide +kernel
theorem dX11_at_83 : decode cX11_at 83 = .ok (.aload_n 0, 1) := by decide +kernel
theorem dX11_at_84 : decode cX11_at 84 = .ok (.getfield 7, 3) := by decide +kernel
theorem dX11_at_87 : decode cX11_at 87 = .ok (.iload_n 3, 1) := by decide +kernel
theorem dX11_at_88 : decode cX11_at 88 = .ok (.iaload, 1) := by decide +kernel
theorem dX11_at_89 : decode cX11_at 89 = .ok (.ifCond .ne 68, 3) := by decide +kernel
theorem dX11_at_92 : decode cX11_at 92 = .ok (.iconst 4, 1) := by decide +kernel
theorem dX11_at_93 : decode cX11_at 93 = .ok (.iload 6, 2) := by decide +kernel
theorem dX11_at_95 : decode cX11_at 95 = .ok (.imul, 1) := by decide +kernel
theorem dX11_at_96 : decode cX11_at 96 = .ok (.iload 5, 2) := by decide +kernel
theorem dX11_at_98 : decode cX11_at 98 = .ok (.if_icmp .gt 14, 3) := by decide +kernel
theorem dX11_at_101 : decode cX11_at 101 = .ok (.iconst 4, 1) := by decide +kernel
theorem dX11_at_102 : decode cX11_at 102 = .ok (.iload 6, 2) := by decide +kernel
theorem dX11_at_104 : decode cX11_at 104 = .ok (.imul, 1) := by decide +kernel
theorem dX11_at_105 : decode cX11_at 105 = .ok (.iload 7, 2) := by decide +kernel
theorem dX11_at_107 : decode cX11_at 107 = .ok (.imul, 1) := by decide +kernel
theorem dX11_at_108 : decode cX11_at 108 = .ok (.iload 5, 2) := by decide +kernel
theorem dX11_at_110 : decode cX11_at 110 = .ok (.idiv, 1) := by decide +kernel
theorem dX11_at_111 : decode cX11_at 111 = .ok (.ireturn, 1) := by decide +kernel
theorem dX11_at_112 : decode cX11_at 112 = .ok (.iconst 4, 1) := by decide +kernel
theorem dX11_at_113 : decode cX11_at 113 = .ok (.iload 6, 2) := by decide +kernel
theorem dX11_at_115 : decode cX11_at 115 = .ok (.imul, 1) := by decide +kernel
theorem dX11_at_116 : decode cX11_at 116 = .ok (.iconst 3, 1) := by decide +kernel
theorem dX11_at_117 : decode cX11_at 117 = .ok (.iload 5, 2) := by decide +kernel
theorem dX11_at_119 : decode cX11_at 119 = .ok (.imul, 1) := by decide +kernel
theorem dX11_at_120 : decode cX11_at 120 = .ok (.if_icmp .gt 21, 3) := by decide +kernel
theorem dX11_at_123 : decode cX11_at 123 = .ok (.iconst 2, 1) := by decide +kernel
theorem dX11_at_124 : decode cX11_at 124 = .ok (.iload 5, 2) := by decide +kernel
theorem dX11_at_126 : decode cX11_at 126 = .ok (.imul, 1) := by decide +kernel
theorem dX11_at_127 : decode cX11_at 127 = .ok (.iconst 4, 1) := by decide +kernel
theorem dX11_at_128 : decode cX11_at 128 = .ok (.iload 6, 2) := by decide +kernel
theorem dX11_at_130 : decode cX11_at 130 = .ok (.imul, 1) := by decide +kernel
theorem dX11_at_131 : decode cX11_at 131 = .ok (.isub, 1) := by decide +kernel
theorem dX11_at_132 : decode cX11_at 132 = .ok (.iload 7, 2) := by decide +kernel
theorem dX11_at_134 : decode cX11_at 134 = .ok (.imul, 1) := by decide +kernel
theorem dX11_at_135 : decode cX11_at 135 = .ok (.iload 5, 2) := by decide +kernel
theorem dX11_at_137 : decode cX11_at 137 = .ok (.idiv, 1) := by decide +kernel
theorem dX11_at_138 : decode cX11_at 138 = .ok (.goto 18, 3) := by decide +kernel
theorem dX11_at_141 : decode cX11_at 141 = .ok (.iconst 4, 1) := by decide +kernel
theorem dX11_at_142 : decode cX11_at 142 = .ok (.iload 6, 2) := by decide +kernel
theorem dX11_at_144 : decode cX11_at 144 = .ok (.imul, 1) := by decide +kernel
theorem dX11_at_145 : decode cX11_at 145 = .ok (.iconst 4, 1) := by decide +kernel
theorem dX11_at_146 : decode cX11_at 146 = .ok (.iload 5, 2) := by decide +kernel
theorem dX11_at_148 : decode cX11_at 148 = .ok (.imul, 1) := by decide +kernel
theorem dX11_at_149 : decode cX11_at 149 = .ok (.isub, 1) := by decide +kernel
theorem dX11_at_150 : decode cX11_at 150 = .ok (.iload 7, 2) := by decide +kernel
theorem dX11_at_152 : decode cX11_at 152 = .ok (.imul, 1) := by decide +kernel
theorem dX11_at_153 : decode cX11_at 153 = .ok (.iload 5, 2) := by decide +kernel
theorem dX11_at_155 : decode cX11_at 155 = .ok (.idiv, 1) := by decide +kernel
theorem dX11_at_156 : decode cX11_at 156 = .ok (.ireturn, 1) := by decide +kernel
theorem dX11_at_157 : decode cX11_at 157 = .ok (.iconst 2, 1) := by decide +kernel
theorem dX11_at_158 : decode cX11_at 158 = .ok (.iload 6, 2) := by decide +kernel
theorem dX11_at_160 : decode cX11_at 160 = .ok (.imul, 1) := by decide +kernel
theorem dX11_at_161 : decode cX11_at 161 = .ok (.istore 8, 2) := by decide +kernel
theorem dX11_at_163 : decode cX11_at 163 = .ok (.aload_n 0, 1) := by decide +kernel
theorem dX11_at_164 : decode cX11_at 164 = .ok (.getfield 7, 3) := by decide +kernel
theorem dX11_at_167 : decode cX11_at 167 = .ok (.iload_n 3, 1) := by decide +kernel
theorem dX11_at_168 : decode cX11_at 168 = .ok (.iaload, 1) := by decide +kernel
theorem dX11_at_169 : decode cX11_at 169 = .ok (.iconst 1, 1) := by decide +kernel
theorem dX11_at_170 : decode cX11_at 170 = .ok (.if_icmp .eq 20, 3) := by decide +kernel
theorem dX11_at_173 : decode cX11_at 173 = .ok (.iload 8, 2) := by decide +kernel
theorem dX11_at_175 : decode cX11_at 175 = .ok (.iload 5, 2) := by decide +kernel
theorem dX11_at_177 : decode cX11_at 177 = .ok (.if_icmp .ge 8, 3) := by decide +kernel
theorem dX11_at_180 : decode cX11_at 180 = .ok (.iload 7, 2) := by decide +kernel
theorem dX11_at_182 : decode cX11_at 182 = .ok (.goto 7, 3) := by decide +kernel
theorem dX11_at_185 : decode cX11_at 185 = .ok (.iconst 0, 1) := by decide +kernel
theorem dX11_at_186 : decode cX11_at 186 = .ok (.iload 7, 2) := by decide +kernel
theorem dX11_at_188 : decode cX11_at 188 = .ok (.isub, 1) := by decide +kernel
theorem dX11_at_189 : decode cX11_at 189 = .ok (.ireturn, 1) := by decide +kernel
theorem dX11_at_190 : decode cX11_at 190 = .ok (.iload 8, 2) := by decide +kernel
theorem dX11_at_192 : decode cX11_at 192 = .ok (.iload 5, 2) := by decide +kernel
theorem dX11_at_194 : decode cX11_at 194 = .ok (.if_icmp .gt 23, 3) := by decide +kernel
theorem dX11_at_197 : decode cX11_at 197 = .ok (.iconst 4, 1) := by decide +kernel
theorem dX11_at_198 : decode cX11_at 198 = .ok (.iload 8, 2) := by decide +kernel
theorem dX11_at_200 : decode cX11_at 200 = .ok (.imul, 1) := by decide +kernel
theorem dX11_at_201 : decode cX11_at 201 = .ok (.iload 5, 2) := by decide +kernel
theorem dX11_at_203 : decode cX11_at 203 = .ok (.iload 8, 2) := by decide +kernel
theorem dX11_at_205 : decode cX11_at 205 = .ok (.isub, 1) := by decide +kernel
theorem dX11_at_206 : decode cX11_at 206 = .ok (.imul, 1) := by decide +kernel
theorem dX11_at_207 : decode cX11_at 207 = .ok (.iload 7, 2) := by decide +kernel
theorem dX11_at_209 : decode cX11_at 209 = .ok (.imul, 1) := by decide +kernel
theorem dX11_at_210 : decode cX11_at 210 = .ok (.iload 5, 2) := by decide +kernel
theorem dX11_at_212 : decode cX11_at 212 = .ok (.iload 5, 2) := by decide +kernel
theorem dX11_at_214 : decode cX11_at 214 = .ok (.imul, 1) := by decide +kernel
theorem dX11_at_215 : decode cX11_at 215 = .ok (.idiv, 1) := by decide +kernel
theorem dX11_at_216 : decode cX11_at 216 = .ok (.ireturn, 1) := by decide +kernel
theorem dX11_at_217 : decode cX11_at 217 = .ok (.iconst 0, 1) := by decide +kernel
theorem dX11_at_218 : decode cX11_at 218 = .ok (.iconst 4, 1) := by decide +kernel
theorem dX11_at_219 : decode cX11_at 219 = .ok (.iload 8, 2) := by decide +kernel
theorem dX11_at_221 : decode cX11_at 221 = .ok (.iload 5, 2) := by decide +kernel
theorem dX11_at_223 : decode cX11_at 223 = .ok (.isub, 1) := by decide +kernel
theorem dX11_at_224 : decode cX11_at 224 = .ok (.imul, 1) := by decide +kernel
theorem dX11_at_225 : decode cX11_at 225 = .ok (.iconst 2, 1) := by decide +kernel
theorem dX11_at_226 : decode cX11_at 226 = .ok (.iload 5, 2) := by decide +kernel
theorem dX11_at_228 : decode cX11_at 228 = .ok (.imul, 1) := by decide +kernel
theorem dX11_at_229 : decode cX11_at 229 = .ok (.iload 8, 2) := by decide +kernel
theorem dX11_at_231 : decode cX11_at 231 = .ok (.isub, 1) := by decide +kernel
theorem dX11_at_232 : decode cX11_at 232 = .ok (.imul, 1) := by decide +kernel
theorem dX11_at_233 : decode cX11_at 233 = .ok (.iload 7, 2) := by decide +kernel
theorem dX11_at_235 : decode cX11_at 235 = .ok (.imul, 1) := by decide +kernel
theorem dX11_at_236 : decode cX11_at 236 = .ok (.iload 5, 2) := by decide +kernel
theorem dX11_at_238 : decode cX11_at 238 = .ok (.iload 5, 2) := by decide +kernel
theorem dX11_at_240 : decode cX11_at 240 = .ok (.imul, 1) := by decide +kernel
theorem dX11_at_241 : decode cX11_at 241 = .ok (.idiv, 1) := by decide +kernel
theorem dX11_at_242 : decode cX11_at 242 = .ok (.isub, 1) := by decide +kernel
theorem dX11_at_243 : decode cX11_at 243 = .ok (.ireturn, 1) := by decide +kernel
theorem bX11_at_0 {G : GX} {h : mH} {Q : mO → mH → Prop} {r1 : Nat} {n1 : Nat} {v2 : Int32} {v3 : Int32} {v4 : Int32} (hi : Iv h) (k1 : kd r1 = (100, n1)) (K : WM G jX11_period [.ref 83, .ref r1, .int v2, .int v3] h (Aft G jX11_at 4 [some (.ref 83), some (.ref r1), some (.int v2), some (.int v3), some (.int v4), none, none, none, none] [] Q)) : Vw G jX11_at 0 [some (.ref 83), some (.ref r1), some (.int v2), some (.int v3), some (.int v4), none, none, none, none] [] h Q :=
  s_aload_n dX11_at_0 rfl (s_aload_n dX11_at_1 rfl (s_iload_n dX11_at_2 rfl (s_iload_n dX11_at_3 rfl (s_callV (As := [.ref r1, .int v2, .int v3]) dX11_at_4 rfl lvX11_245 ⟨Nat.le_of_ble_eq_true rfl, Nat.le_of_ble_eq_true rfl⟩ (hi.sh rfl rfl) ⟨_, _, by decide, rfl⟩ rfl (Nat.le_of_ble_eq_true rfl) (K)))))
theorem bX11_at_7 {G : GX} {h : mH} {Q : mO → mH → Prop} {r1 : Nat} {n1 : Nat} {v2 : Int32} {v3 : Int32} {v4 : Int32} {vs0 : Int32} (hi : Iv h) (k1 : kd r1 = (100, n1)) (K : vp_in ((v2 + 4) + v3) n1 ∧ (¬ vs0 = 0 ∧ (vp_in ((v2 + 8) + v3) n1 ∧ (¬ vs0 = 0 ∧ Vw G jX11_at 41 [some (.ref 83), none, none, some (.int v3), none, some (.int vs0), some (.int ((v4 + (gI h r1 (Int32.toNatClampNeg ((v2 + 4) + v3)))) - (v4 + (gI h r1 (Int32.toNatClampNeg ((v2 + 4) + v3)))) / vs0 * vs0)), some (.int (gI h r1 (Int32.toNatClampNeg ((v2 + 8) + v3)))), some (.int (v4 / vs0))] [] h Q)))) : Vw G jX11_at 7 [some (.ref 83), some (.ref r1), some (.int v2), some (.int v3), some (.int v4), none, none, none, none] [.int vs0] h Q :=
  s_istore dX11_at_7 (Nat.le_of_ble_eq_true rfl) rfl (s_iload dX11_at_9 rfl (s_aload_n dX11_at_11 rfl (s_iload_n dX11_at_12 rfl (s_iconst 4 dX11_at_13 (by decide) (s_iadd dX11_at_14 (s_iload_n dX11_at_15 rfl (s_iadd dX11_at_16 (s_iaload dX11_at_17 (hi.sh k1 rfl) K.1 (s_iadd dX11_at_18 (s_iload dX11_at_19 rfl (s_irem dX11_at_21 K.2.1 (s_istore dX11_at_22 (Nat.le_of_ble_eq_true rfl) rfl (s_aload_n dX11_at_24 rfl (s_iload_n dX11_at_25 rfl (s_bipush 8 dX11_at_26 (by decide) (s_iadd dX11_at_28 (s_iload_n dX11_at_29 rfl (s_iadd dX11_at_30 (s_iaload dX11_at_31 (hi.sh k1 rfl) K.2.2.1 (s_istore dX11_at_32 (Nat.le_of_ble_eq_true rfl) rfl (s_iload dX11_at_34 rfl (s_iload dX11_at_36 rfl (s_idiv dX11_at_38 K.2.2.2.1 (s_istore dX11_at_39 (Nat.le_of_ble_eq_true rfl) rfl (Vw.mask [true, false, false, true, false, true, true, true, true] (K.2.2.2.2))))))))))))))))))))))))))
theorem bX11_at_41 {G : GX} {h : mH} {Q : mO → mH → Prop} {v3 : Int32} {v5 : Int32} {v6 : Int32} {v7 : Int32} {v8 : Int32} (hi : Iv h) (K : (v8 ≤ 0 → Vw G jX11_at 83 [some (.ref 83), none, none, some (.int v3), none, some (.int v5), some (.int v6), some (.int v7), none] [] h Q) ∧ (¬ v8 ≤ 0 → ((v7 ≤ 0 → Vw G jX11_at 83 [some (.ref 83), none, none, some (.int v3), none, some (.int v5), some (.int v6), some (.int v7), none] [] h Q) ∧ (¬ v7 ≤ 0 → (vp_in v3 4 ∧ (((gI h 86 (Int32.toNatClampNeg v3)) ≤ 0 → Vw G jX11_at 83 [some (.ref 83), none, none, some (.int v3), none, some (.int v5), some (.int v6), some (.int v7), none] [] h Q) ∧ (¬ (gI h 86 (Int32.toNatClampNeg v3)) ≤ 0 → (vp_in v3 4 ∧ Vw G jX11_at 41 [some (.ref 83), none, none, some (.int v3), none, some (.int v5), some (.int v6), some (.int ((v7 * (100 - (gI h 86 (Int32.toNatClampNeg v3)))) / (100 : Int32))), some (.int (v8 + (-1)))] [] h Q)))))))) : Vw G jX11_at 41 [some (.ref 83), none, none, some (.int v3), none, some (.int v5), some (.int v6), some (.int v7), some (.int v8)] [] h Q :=
  s_iload dX11_at_41 rfl (s_if_le 83 dX11_at_43 rfl (fun q1 => Vw.mask [true, false, false, true, false, true, true, true, false] ((K.1 q1))) (fun q1 => s_iload dX11_at_46 rfl (s_if_le 83 dX11_at_48 rfl (fun q3 => Vw.mask [true, false, false, true, false, true, true, true, false] (((K.2 q1).1 q3))) (fun q3 => s_aload_n dX11_at_51 rfl (s_getR (v := .ref 86) dX11_at_52 flX11_16 rfl (hi.sh rfl rfl) (hi.rf (o := 83) (k := 5) (d := 3) rfl rfl) (s_iload_n dX11_at_55 rfl (s_iaload dX11_at_56 (hi.sh rfl rfl) ((K.2 q1).2 q3).1 (s_if_le 83 dX11_at_57 rfl (fun q8 => Vw.mask [true, false, false, true, false, true, true, true, false] ((((K.2 q1).2 q3).2.1 q8))) (fun q8 => s_iload dX11_at_60 rfl (s_bipush 100 dX11_at_62 (by decide) (s_aload_n dX11_at_64 rfl (s_getR (v := .ref 86) dX11_at_65 flX11_16 rfl (hi.sh rfl rfl) (hi.rf (o := 83) (k := 5) (d := 3) rfl rfl) (s_iload_n dX11_at_68 rfl (s_iaload dX11_at_69 (hi.sh rfl rfl) (((K.2 q1).2 q3).2.2 q8).1 (s_isub dX11_at_70 (s_imul dX11_at_71 (s_bipush 100 dX11_at_72 (by decide) (s_idiv dX11_at_74 (by decide) (s_istore dX11_at_75 (Nat.le_of_ble_eq_true rfl) rfl (s_iinc (-1) dX11_at_77 rfl (by decide) (Nat.le_of_ble_eq_true rfl) rfl (s_goto 41 dX11_at_80 rfl ((((K.2 q1).2 q3).2.2 q8).2))))))))))))))))))))))
theorem bX11_at_83 {G : GX} {h : mH} {Q : mO → mH → Prop} {v3 : Int32} {v5 : Int32} {v6 : Int32} {v7 : Int32} (hi : Iv h) (K : vp_in v3 4 ∧ ((¬ (gI h 84 (Int32.toNatClampNeg v3)) = 0 → (vp_in v3 4 ∧ (((gI h 84 (Int32.toNatClampNeg v3)) = 1 → ((v5 < (2 * v6) → (¬ (v5 * v5) = 0 ∧ Q (.inl (some (.int (0 - ((((4 * ((2 * v6) - v5)) * ((2 * v5) - (2 * v6))) * v7) / (v5 * v5)))))) h)) ∧ (¬ v5 < (2 * v6) → (¬ (v5 * v5) = 0 ∧ Q (.inl (some (.int ((((4 * (2 * v6)) * (v5 - (2 * v6))) * v7) / (v5 * v5))))) h)))) ∧ (¬ (gI h 84 (Int32.toNatClampNeg v3)) = 1 → ((v5 ≤ (2 * v6) → Q (.inl (some (.int (0 - v7)))) h) ∧ (¬ v5 ≤ (2 * v6) → Q (.inl (some (.int v7))) h)))))) ∧ ((gI h 84 (Int32.toNatClampNeg v3)) = 0 → ((v5 < (4 * v6) → (((3 * v5) < (4 * v6) → (¬ v5 = 0 ∧ Q (.inl (some (.int ((((4 * v6) - (4 * v5)) * v7) / v5)))) h)) ∧ (¬ (3 * v5) < (4 * v6) → (¬ v5 = 0 ∧ Q (.inl (some (.int ((((2 * v5) - (4 * v6)) * v7) / v5)))) h)))) ∧ (¬ v5 < (4 * v6) → (¬ v5 = 0 ∧ Q (.inl (some (.int (((4 * v6) * v7) / v5)))) h)))))) : Vw G jX11_at 83 [some (.ref 83), none, none, some (.int v3), none, some (.int v5), some (.int v6), some (.int v7), none] [] h Q :=
  s_aload_n dX11_at_83 rfl (s_getR (v := .ref 84) dX11_at_84 flX11_7 rfl (hi.sh rfl rfl) (hi.rf (o := 83) (k := 3) (d := 1) rfl rfl) (s_iload_n dX11_at_87 rfl (s_iaload dX11_at_88 (hi.sh rfl rfl) K.1 (s_if_ne 157 dX11_at_89 rfl (fun q4 => s_iconst 2 dX11_at_157 (by decide) (s_iload dX11_at_158 rfl (s_imul dX11_at_160 (s_istore dX11_at_161 (Nat.le_of_ble_eq_true rfl) rfl (s_aload_n dX11_at_163 rfl (s_getR (v := .ref 84) dX11_at_164 flX11_7 rfl (hi.sh rfl rfl) (hi.rf (o := 83) (k := 3) (d := 1) rfl rfl) (s_iload_n dX11_at_167 rfl (s_iaload dX11_at_168 (hi.sh rfl rfl) (K.2.1 q4).1 (s_iconst 1 dX11_at_169 (by decide) (s_icmp_eq 190 dX11_at_170 rfl (fun q14 => s_iload dX11_at_190 rfl (s_iload dX11_at_192 rfl (s_icmp_gt 217 dX11_at_194 rfl (fun q17 => s_iconst 0 dX11_at_217 (by decide) (s_iconst 4 dX11_at_218 (by decide) (s_iload dX11_at_219 rfl (s_iload dX11_at_221 rfl (s_isub dX11_at_223 (s_imul dX11_at_224 (s_iconst 2 dX11_at_225 (by decide) (s_iload dX11_at_226 rfl (s_imul dX11_at_228 (s_iload dX11_at_229 rfl (s_isub dX11_at_231 (s_imul dX11_at_232 (s_iload dX11_at_233 rfl (s_imul dX11_at_235 (s_iload dX11_at_236 rfl (s_iload dX11_at_238 rfl (s_imul dX11_at_240 (s_idiv dX11_at_241 (((K.2.1 q4).2.1 q14).1 q17).1 (s_isub dX11_at_242 (s_ireturn dX11_at_243 rfl (((K.2.1 q4).2.1 q14).1 q17).2)))))))))))))))))))) (fun q17 => s_iconst 4 dX11_at_197 (by decide) (s_iload dX11_at_198 rfl (s_imul dX11_at_200 (s_iload dX11_at_201 rfl (s_iload dX11_at_203 rfl (s_isub dX11_at_205 (s_imul dX11_at_206 (s_iload dX11_at_207 rfl (s_imul dX11_at_209 (s_iload dX11_at_210 rfl (s_iload dX11_at_212 rfl (s_imul dX11_at_214 (s_idiv dX11_at_215 (((K.2.1 q4).2.1 q14).2 q17).1 (s_ireturn dX11_at_216 rfl (((K.2.1 q4).2.1 q14).2 q17).2))))))))))))))))) (fun q14 => s_iload dX11_at_173 rfl (s_iload dX11_at_175 rfl (s_icmp_ge 185 dX11_at_177 rfl (fun q17 => s_iconst 0 dX11_at_185 (by decide) (s_iload dX11_at_186 rfl (s_isub dX11_at_188 (s_ireturn dX11_at_189 rfl (((K.2.1 q4).2.2 q14).1 q17))))) (fun q17 => s_iload dX11_at_180 rfl (s_goto 189 dX11_at_182 rfl (s_ireturn dX11_at_189 rfl (((K.2.1 q4).2.2 q14).2 q17))))))))))))))))) (fun q4 => s_iconst 4 dX11_at_92 (by decide) (s_iload dX11_at_93 rfl (s_imul dX11_at_95 (s_iload dX11_at_96 rfl (s_icmp_gt 112 dX11_at_98 rfl (fun q9 => s_iconst 4 dX11_at_112 (by decide) (s_iload dX11_at_113 rfl (s_imul dX11_at_115 (s_iconst 3 dX11_at_116 (by decide) (s_iload dX11_at_117 rfl (s_imul dX11_at_119 (s_icmp_gt 141 dX11_at_120 rfl (fun q16 => s_iconst 4 dX11_at_141 (by decide) (s_iload dX11_at_142 rfl (s_imul dX11_at_144 (s_iconst 4 dX11_at_145 (by decide) (s_iload dX11_at_146 rfl (s_imul dX11_at_148 (s_isub dX11_at_149 (s_iload dX11_at_150 rfl (s_imul dX11_at_152 (s_iload dX11_at_153 rfl (s_idiv dX11_at_155 (((K.2.2 q4).1 q9).1 q16).1 (s_ireturn dX11_at_156 rfl (((K.2.2 q4).1 q9).1 q16).2)))))))))))) (fun q16 => s_iconst 2 dX11_at_123 (by decide) (s_iload dX11_at_124 rfl (s_imul dX11_at_126 (s_iconst 4 dX11_at_127 (by decide) (s_iload dX11_at_128 rfl (s_imul dX11_at_130 (s_isub dX11_at_131 (s_iload dX11_at_132 rfl (s_imul dX11_at_134 (s_iload dX11_at_135 rfl (s_idiv dX11_at_137 (((K.2.2 q4).1 q9).2 q16).1 (s_goto 156 dX11_at_138 rfl (s_ireturn dX11_at_156 rfl (((K.2.2 q4).1 q9).2 q16).2)))))))))))))))))))) (fun q9 => s_iconst 4 dX11_at_101 (by decide) (s_iload dX11_at_102 rfl (s_imul dX11_at_104 (s_iload dX11_at_105 rfl (s_imul dX11_at_107 (s_iload dX11_at_108 rfl (s_idiv dX11_at_110 ((K.2.2 q4).2 q9).1 (s_ireturn dX11_at_111 rfl ((K.2.2 q4).2 q9).2)))))))))))))))))
theorem eX11_at {G : GX} {h : mH} {Q : mO → mH → Prop} {r1 : Nat} {n1 : Nat} {v2 : Int32} {v3 : Int32} {v4 : Int32} (hi : Iv h) (k1 : kd r1 = (100, n1)) (K : WM G jX11_period [.ref 83, .ref r1, .int v2, .int v3] h (Aft G jX11_at 4 [some (.ref 83), some (.ref r1), some (.int v2), some (.int v3), some (.int v4), none, none, none, none] [] Q)) : WM G jX11_at [.ref 83, .ref r1, .int v2, .int v3, .int v4] h Q :=
  WM.body (ls := [some (.ref 83), some (.ref r1), some (.int v2), some (.int v3), some (.int v4), none, none, none, none]) rfl (by decide +kernel) rfl (Nat.le_of_ble_eq_true rfl) rfl ((bX11_at_0 hi k1 K))
theorem dX11_penOf_0 : decode cX11_penOf 0 = .ok (.aload_n 0, 1) := by decide +kernel
theorem dX11_penOf_1 : decode cX11_penOf 1 = .ok (.aload_n 1, 1) := by decide +kernel
theorem dX11_penOf_2 : decode cX11_penOf 2 = .ok (.iload_n 2, 1) := by decide +kernel
theorem dX11_penOf_3 : decode cX11_penOf 3 = .ok (.iconst 2, 1) := by decide +kernel
theorem dX11_penOf_4 : decode cX11_penOf 4 = .ok (.iload 4, 2) := by decide +kernel
theorem dX11_penOf_6 : decode cX11_penOf 6 = .ok (.imul, 1) := by decide +kernel
theorem dX11_penOf_7 : decode cX11_penOf 7 = .ok (.iload_n 3, 1) := by decide +kernel
theorem dX11_penOf_8 : decode cX11_penOf 8 = .ok (.invokevirtual 252, 3) := by decide +kernel
theorem dX11_penOf_11 : decode cX11_penOf 11 = .ok (.aload_n 0, 1) := by decide +kernel
theorem dX11_penOf_12 : decode cX11_penOf 12 = .ok (.aload_n 1, 1) := by decide +kernel
theorem dX11_penOf_13 : decode cX11_penOf 13 = .ok (.iload_n 2, 1) := by decide +kernel
theorem dX11_penOf_14 : decode cX11_penOf 14 = .ok (.iconst 2, 1) := by decide +kernel
theorem dX11_penOf_15 : decode cX11_penOf 15 = .ok (.iload 4, 2) := by decide +kernel
theorem dX11_penOf_17 : decode cX11_penOf 17 = .ok (.imul, 1) := by decide +kernel
theorem dX11_penOf_18 : decode cX11_penOf 18 = .ok (.iconst 1, 1) := by decide +kernel
theorem dX11_penOf_19 : decode cX11_penOf 19 = .ok (.iadd, 1) := by decide +kernel
theorem dX11_penOf_20 : decode cX11_penOf 20 = .ok (.iload_n 3, 1) := by decide +kernel
theorem dX11_penOf_21 : decode cX11_penOf 21 = .ok (.invokevirtual 252, 3) := by decide +kernel
theorem dX11_penOf_24 : decode cX11_penOf 24 = .ok (.iadd, 1) := by decide +kernel
theorem dX11_penOf_25 : decode cX11_penOf 25 = .ok (.ireturn, 1) := by decide +kernel
theorem bX11_penOf_0 {G : GX} {h : mH} {Q : mO → mH → Prop} {r1 : Nat} {n1 : Nat} {v2 : Int32} {v3 : Int32} {v4 : Int32} (hi : Iv h) (k1 : kd r1 = (100, n1)) (K : WM G jX11_at [.ref 83, .ref r1, .int v2, .int (2 * v4), .int v3] h (Aft G jX11_penOf 8 [some (.ref 83), some (.ref r1), some (.int v2), some (.int v3), some (.int v4)] [] Q)) : Vw G jX11_penOf 0 [some (.ref 83), some (.ref r1), some (.int v2), some (.int v3), some (.int v4)] [] h Q :=
  s_aload_n dX11_penOf_0 rfl (s_aload_n dX11_penOf_1 rfl (s_iload_n dX11_penOf_2 rfl (s_iconst 2 dX11_penOf_3 (by decide) (s_iload dX11_penOf_4 rfl (s_imul dX11_penOf_6 (s_iload_n dX11_penOf_7 rfl (s_callV (As := [.ref r1, .int v2, .int (2 * v4), .int v3]) dX11_penOf_8 rfl lvX11_252 ⟨Nat.le_of_ble_eq_true rfl, Nat.le_of_ble_eq_true rfl⟩ (hi.sh rfl rfl) ⟨_, _, by decide, rfl⟩ rfl (Nat.le_of_ble_eq_true rfl) (K))))))))
theorem bX11_penOf_11 {G : GX} {h : mH} {Q : mO → mH → Prop} {r1 : Nat} {n1 : Nat} {v2 : Int32} {v3 : Int32} {v4 : Int32} {vs0 : Int32} (hi : Iv h) (k1 : kd r1 = (100, n1)) (K : WM G jX11_at [.ref 83, .ref r1, .int v2, .int ((2 * v4) + 1), .int v3] h (Aft G jX11_penOf 21 [none, none, none, none, none] [.int vs0] Q)) : Vw G jX11_penOf 11 [some (.ref 83), some (.ref r1), some (.int v2), some (.int v3), some (.int v4)] [.int vs0] h Q :=
  s_aload_n dX11_penOf_11 rfl (s_aload_n dX11_penOf_12 rfl (s_iload_n dX11_penOf_13 rfl (s_iconst 2 dX11_penOf_14 (by decide) (s_iload dX11_penOf_15 rfl (s_imul dX11_penOf_17 (s_iconst 1 dX11_penOf_18 (by decide) (s_iadd dX11_penOf_19 (s_iload_n dX11_penOf_20 rfl (Vw.mask [false, false, false, false, false] (s_callV (As := [.ref r1, .int v2, .int ((2 * v4) + 1), .int v3]) dX11_penOf_21 rfl lvX11_252 ⟨Nat.le_of_ble_eq_true rfl, Nat.le_of_ble_eq_true rfl⟩ (hi.sh rfl rfl) ⟨_, _, by decide, rfl⟩ rfl (Nat.le_of_ble_eq_true rfl) (K)))))))))))
theorem bX11_penOf_24 {G : GX} {h : mH} {Q : mO → mH → Prop} {vs0 : Int32} {vs1 : Int32} (hi : Iv h) (K : Q (.inl (some (.int (vs1 + vs0)))) h) : Vw G jX11_penOf 24 [none, none, none, none, none] [.int vs0, .int vs1] h Q :=
  s_iadd dX11_penOf_24 (s_ireturn dX11_penOf_25 rfl K)
theorem eX11_penOf {G : GX} {h : mH} {Q : mO → mH → Prop} {r1 : Nat} {n1 : Nat} {v2 : Int32} {v3 : Int32} {v4 : Int32} (hi : Iv h) (k1 : kd r1 = (100, n1)) (K : WM G jX11_at [.ref 83, .ref r1, .int v2, .int (2 * v4), .int v3] h (Aft G jX11_penOf 8 [some (.ref 83), some (.ref r1), some (.int v2), some (.int v3), some (.int v4)] [] Q)) : WM G jX11_penOf [.ref 83, .ref r1, .int v2, .int v3, .int v4] h Q :=
  WM.body (ls := [some (.ref 83), some (.ref r1), some (.int v2), some (.int v3), some (.int v4)]) rfl (by decide +kernel) rfl (Nat.le_of_ble_eq_true rfl) rfl ((bX11_penOf_0 hi k1 K))
