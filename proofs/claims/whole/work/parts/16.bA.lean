theorem dX10_greatestCommon_0 : decode cX10_greatestCommon 0 = .ok (.iload_n 0, 1) := by decide +kernel
theorem dX10_greatestCommon_1 : decode cX10_greatestCommon 1 = .ok (.istore_n 2, 1) := by decide +kernel
theorem dX10_greatestCommon_2 : decode cX10_greatestCommon 2 = .ok (.iload_n 1, 1) := by decide +kernel
theorem dX10_greatestCommon_3 : decode cX10_greatestCommon 3 = .ok (.istore_n 3, 1) := by decide +kernel
theorem dX10_greatestCommon_4 : decode cX10_greatestCommon 4 = .ok (.iconst 0, 1) := by decide +kernel
theorem dX10_greatestCommon_5 : decode cX10_greatestCommon 5 = .ok (.istore 4, 2) := by decide +kernel
theorem dX10_greatestCommon_7 : decode cX10_greatestCommon 7 = .ok (.iload 4, 2) := by decide +kernel
theorem dX10_greatestCommon_9 : decode cX10_greatestCommon 9 = .ok (.bipush 100, 2) := by decide +kernel
theorem dX10_greatestCommon_11 : decode cX10_greatestCommon 11 = .ok (.if_icmp .ge 23, 3) := by decide +kernel
theorem dX10_greatestCommon_14 : decode cX10_greatestCommon 14 = .ok (.iload_n 3, 1) := by decide +kernel
theorem dX10_greatestCommon_15 : decode cX10_greatestCommon 15 = .ok (.ifCond .eq 19, 3) := by decide +kernel
theorem dX10_greatestCommon_18 : decode cX10_greatestCommon 18 = .ok (.iload_n 2, 1) := by decide +kernel
theorem dX10_greatestCommon_19 : decode cX10_greatestCommon 19 = .ok (.iload_n 3, 1) := by decide +kernel
theorem dX10_greatestCommon_20 : decode cX10_greatestCommon 20 = .ok (.irem, 1) := by decide +kernel
theorem dX10_greatestCommon_21 : decode cX10_greatestCommon 21 = .ok (.istore 5, 2) := by decide +kernel
theorem dX10_greatestCommon_23 : decode cX10_greatestCommon 23 = .ok (.iload_n 3, 1) := by decide +kernel
theorem dX10_greatestCommon_24 : decode cX10_greatestCommon 24 = .ok (.istore_n 2, 1) := by decide +kernel
theorem dX10_greatestCommon_25 : decode cX10_greatestCommon 25 = .ok (.iload 5, 2) := by decide +kernel
theorem dX10_greatestCommon_27 : decode cX10_greatestCommon 27 = .ok (.istore_n 3, 1) := by decide +kernel
theorem dX10_greatestCommon_28 : decode cX10_greatestCommon 28 = .ok (.iinc 4 1, 3) := by decide +kernel
theorem dX10_greatestCommon_31 : decode cX10_greatestCommon 31 = .ok (.goto (-24), 3) := by decide +kernel
theorem dX10_greatestCommon_34 : decode cX10_greatestCommon 34 = .ok (.iload_n 2, 1) := by decide +kernel
theorem dX10_greatestCommon_35 : decode cX10_greatestCommon 35 = .ok (.ireturn, 1) := by decide +kernel
theorem bX10_greatestCommon_0 {G : GX} {h : mH} {Q : mO → mH → Prop} {v0 : Int32} {v1 : Int32} (hi : Iv h) (K : Vw G jX10_greatestCommon 7 [none, none, some (.int v0), some (.int v1), some (.int 0), none] [] h Q) : Vw G jX10_greatestCommon 0 [some (.int v0), some (.int v1), none, none, none, none] [] h Q :=
  s_iload_n dX10_greatestCommon_0 rfl (s_istore_n dX10_greatestCommon_1 (Nat.le_of_ble_eq_true rfl) rfl (s_iload_n dX10_greatestCommon_2 rfl (s_istore_n dX10_greatestCommon_3 (Nat.le_of_ble_eq_true rfl) rfl (s_iconst 0 dX10_greatestCommon_4 (by decide) (s_istore dX10_greatestCommon_5 (Nat.le_of_ble_eq_true rfl) rfl (Vw.mask [false, false, true, true, true, false] (K)))))))
theorem bX10_greatestCommon_7 {G : GX} {h : mH} {Q : mO → mH → Prop} {v2 : Int32} {v3 : Int32} {v4 : Int32} (hi : Iv h) (K : (100 ≤ v4 → Q (.inl (some (.int v2))) h) ∧ (¬ 100 ≤ v4 → ((v3 = 0 → Q (.inl (some (.int v2))) h) ∧ (¬ v3 = 0 → (¬ v3 = 0 ∧ Vw G jX10_greatestCommon 7 [none, none, some (.int v3), some (.int (v2 - v2 / v3 * v3)), some (.int (v4 + 1)), none] [] h Q))))) : Vw G jX10_greatestCommon 7 [none, none, some (.int v2), some (.int v3), some (.int v4), none] [] h Q :=
  s_iload dX10_greatestCommon_7 rfl (s_bipush 100 dX10_greatestCommon_9 (by decide) (s_icmp_ge 34 dX10_greatestCommon_11 rfl (fun q2 => s_iload_n dX10_greatestCommon_34 rfl (s_ireturn dX10_greatestCommon_35 rfl (K.1 q2))) (fun q2 => s_iload_n dX10_greatestCommon_14 rfl (s_if_eq 34 dX10_greatestCommon_15 rfl (fun q4 => s_iload_n dX10_greatestCommon_34 rfl (s_ireturn dX10_greatestCommon_35 rfl ((K.2 q2).1 q4))) (fun q4 => s_iload_n dX10_greatestCommon_18 rfl (s_iload_n dX10_greatestCommon_19 rfl (s_irem dX10_greatestCommon_20 ((K.2 q2).2 q4).1 (s_istore dX10_greatestCommon_21 (Nat.le_of_ble_eq_true rfl) rfl (s_iload_n dX10_greatestCommon_23 rfl (s_istore_n dX10_greatestCommon_24 (Nat.le_of_ble_eq_true rfl) rfl (s_iload dX10_greatestCommon_25 rfl (s_istore_n dX10_greatestCommon_27 (Nat.le_of_ble_eq_true rfl) rfl (s_iinc 1 dX10_greatestCommon_28 rfl (by decide) (Nat.le_of_ble_eq_true rfl) rfl (s_goto 7 dX10_greatestCommon_31 rfl (Vw.mask [false, false, true, true, true, false] (((K.2 q2).2 q4).2))))))))))))))))
theorem eX10_greatestCommon {G : GX} {h : mH} {Q : mO → mH → Prop} {v0 : Int32} {v1 : Int32} (hi : Iv h) (K : Vw G jX10_greatestCommon 7 [none, none, some (.int v0), some (.int v1), some (.int 0), none] [] h Q) : WM G jX10_greatestCommon [.int v0, .int v1] h Q :=
  WM.body (ls := [some (.int v0), some (.int v1), none, none, none, none]) rfl (by decide +kernel) rfl (Nat.le_of_ble_eq_true rfl) rfl ((bX10_greatestCommon_0 hi  K))
theorem dX10_feed_0 : decode cX10_feed 0 = .ok (.aload_n 0, 1) := by decide +kernel
theorem dX10_feed_1 : decode cX10_feed 1 = .ok (.getfield 12, 3) := by decide +kernel
theorem dX10_feed_4 : decode cX10_feed 4 = .ok (.invokevirtual 99, 3) := by decide +kernel
theorem dX10_feed_7 : decode cX10_feed 7 = .ok (.ifCond .ne 5, 3) := by decide +kernel
theorem dX10_feed_10 : decode cX10_feed 10 = .ok (.iconst (-1), 1) := by decide +kernel
theorem dX10_feed_11 : decode cX10_feed 11 = .ok (.ireturn, 1) := by decide +kernel
theorem dX10_feed_12 : decode cX10_feed 12 = .ok (.aload_n 0, 1) := by decide +kernel
theorem dX10_feed_13 : decode cX10_feed 13 = .ok (.getfield 12, 3) := by decide +kernel
theorem dX10_feed_16 : decode cX10_feed 16 = .ok (.iload_n 1, 1) := by decide +kernel
theorem dX10_feed_17 : decode cX10_feed 17 = .ok (.invokevirtual 103, 3) := by decide +kernel
theorem dX10_feed_20 : decode cX10_feed 20 = .ok (.aload_n 0, 1) := by decide +kernel
theorem dX10_feed_21 : decode cX10_feed 21 = .ok (.getfield 12, 3) := by decide +kernel
theorem dX10_feed_24 : decode cX10_feed 24 = .ok (.iload_n 2, 1) := by decide +kernel
theorem dX10_feed_25 : decode cX10_feed 25 = .ok (.invokevirtual 103, 3) := by decide +kernel
theorem dX10_feed_28 : decode cX10_feed 28 = .ok (.aload_n 0, 1) := by decide +kernel
theorem dX10_feed_29 : decode cX10_feed 29 = .ok (.getfield 12, 3) := by decide +kernel
theorem dX10_feed_32 : decode cX10_feed 32 = .ok (.iload_n 3, 1) := by decide +kernel
theorem dX10_feed_33 : decode cX10_feed 33 = .ok (.invokevirtual 103, 3) := by decide +kernel
theorem dX10_feed_36 : decode cX10_feed 36 = .ok (.aload_n 0, 1) := by decide +kernel
theorem dX10_feed_37 : decode cX10_feed 37 = .ok (.getfield 12, 3) := by decide +kernel
theorem dX10_feed_40 : decode cX10_feed 40 = .ok (.iload 4, 2) := by decide +kernel
theorem dX10_feed_42 : decode cX10_feed 42 = .ok (.invokevirtual 103, 3) := by decide +kernel
theorem dX10_feed_45 : decode cX10_feed 45 = .ok (.aload_n 0, 1) := by decide +kernel
theorem dX10_feed_46 : decode cX10_feed 46 = .ok (.getfield 12, 3) := by decide +kernel
theorem dX10_feed_49 : decode cX10_feed 49 = .ok (.iload 5, 2) := by decide +kernel
theorem dX10_feed_51 : decode cX10_feed 51 = .ok (.invokevirtual 103, 3) := by decide +kernel
theorem dX10_feed_54 : decode cX10_feed 54 = .ok (.aload_n 0, 1) := by decide +kernel
theorem dX10_feed_55 : decode cX10_feed 55 = .ok (.getfield 12, 3) := by decide +kernel
theorem dX10_feed_58 : decode cX10_feed 58 = .ok (.getfield 107, 3) := by decide +kernel
theorem dX10_feed_61 : decode cX10_feed 61 = .ok (.ireturn, 1) := by decide +kernel
theorem bX10_feed_0 {G : GX} {h : mH} {Q : mO → mH → Prop} {v1 : Int32} {v2 : Int32} {v3 : Int32} {v4 : Int32} {v5 : Int32} (hi : Iv h) (K : (¬ (fX9_hasRoom h) = 0 → WM G jX9_lay [.ref 1, .int v1] h (Aft G jX10_feed 17 [some (.ref 0), none, some (.int v2), some (.int v3), some (.int v4), some (.int v5)] [] Q)) ∧ ((fX9_hasRoom h) = 0 → Q (.inl (some (.int (-1)))) h)) : Vw G jX10_feed 0 [some (.ref 0), some (.int v1), some (.int v2), some (.int v3), some (.int v4), some (.int v5)] [] h Q :=
  s_aload_n dX10_feed_0 rfl (s_getR (v := .ref 1) dX10_feed_1 flX10_12 rfl (hi.sh rfl rfl) (hi.rf (o := 0) (k := 0) (d := 1) rfl rfl) (s_callV (As := []) dX10_feed_4 rfl lvX10_99 ⟨Nat.le_of_ble_eq_true rfl, Nat.le_of_ble_eq_true rfl⟩ (hi.sh rfl rfl) ⟨_, _, by decide, rfl⟩ rfl (Nat.le_of_ble_eq_true rfl) (mX9_hasRoom hi   (s_if_ne 12 dX10_feed_7 rfl (fun q3 => s_aload_n dX10_feed_12 rfl (s_getR (v := .ref 1) dX10_feed_13 flX10_12 rfl (hi.sh rfl rfl) (hi.rf (o := 0) (k := 0) (d := 1) rfl rfl) (s_iload_n dX10_feed_16 rfl (Vw.mask [true, false, true, true, true, true] (s_callV (As := [.int v1]) dX10_feed_17 rfl lvX10_103 ⟨Nat.le_of_ble_eq_true rfl, Nat.le_of_ble_eq_true rfl⟩ (hi.sh rfl rfl) ⟨_, _, by decide, rfl⟩ rfl (Nat.le_of_ble_eq_true rfl) ((K.1 q3))))))) (fun q3 => s_iconst (-1) dX10_feed_10 (by decide) (s_ireturn dX10_feed_11 rfl (K.2 q3)))))))
theorem bX10_feed_20 {G : GX} {h : mH} {Q : mO → mH → Prop} {v2 : Int32} {v3 : Int32} {v4 : Int32} {v5 : Int32} (hi : Iv h) (K : WM G jX9_lay [.ref 1, .int v2] h (Aft G jX10_feed 25 [some (.ref 0), none, none, some (.int v3), some (.int v4), some (.int v5)] [] Q)) : Vw G jX10_feed 20 [some (.ref 0), none, some (.int v2), some (.int v3), some (.int v4), some (.int v5)] [] h Q :=
  s_aload_n dX10_feed_20 rfl (s_getR (v := .ref 1) dX10_feed_21 flX10_12 rfl (hi.sh rfl rfl) (hi.rf (o := 0) (k := 0) (d := 1) rfl rfl) (s_iload_n dX10_feed_24 rfl (Vw.mask [true, false, false, true, true, true] (s_callV (As := [.int v2]) dX10_feed_25 rfl lvX10_103 ⟨Nat.le_of_ble_eq_true rfl, Nat.le_of_ble_eq_true rfl⟩ (hi.sh rfl rfl) ⟨_, _, by decide, rfl⟩ rfl (Nat.le_of_ble_eq_true rfl) (K)))))
theorem bX10_feed_28 {G : GX} {h : mH} {Q : mO → mH → Prop} {v3 : Int32} {v4 : Int32} {v5 : Int32} (hi : Iv h) (K : WM G jX9_lay [.ref 1, .int v3] h (Aft G jX10_feed 33 [some (.ref 0), none, none, none, some (.int v4), some (.int v5)] [] Q)) : Vw G jX10_feed 28 [some (.ref 0), none, none, some (.int v3), some (.int v4), some (.int v5)] [] h Q :=
  s_aload_n dX10_feed_28 rfl (s_getR (v := .ref 1) dX10_feed_29 flX10_12 rfl (hi.sh rfl rfl) (hi.rf (o := 0) (k := 0) (d := 1) rfl rfl) (s_iload_n dX10_feed_32 rfl (Vw.mask [true, false, false, false, true, true] (s_callV (As := [.int v3]) dX10_feed_33 rfl lvX10_103 ⟨Nat.le_of_ble_eq_true rfl, Nat.le_of_ble_eq_true rfl⟩ (hi.sh rfl rfl) ⟨_, _, by decide, rfl⟩ rfl (Nat.le_of_ble_eq_true rfl) (K)))))
theorem bX10_feed_36 {G : GX} {h : mH} {Q : mO → mH → Prop} {v4 : Int32} {v5 : Int32} (hi : Iv h) (K : WM G jX9_lay [.ref 1, .int v4] h (Aft G jX10_feed 42 [some (.ref 0), none, none, none, none, some (.int v5)] [] Q)) : Vw G jX10_feed 36 [some (.ref 0), none, none, none, some (.int v4), some (.int v5)] [] h Q :=
  s_aload_n dX10_feed_36 rfl (s_getR (v := .ref 1) dX10_feed_37 flX10_12 rfl (hi.sh rfl rfl) (hi.rf (o := 0) (k := 0) (d := 1) rfl rfl) (s_iload dX10_feed_40 rfl (Vw.mask [true, false, false, false, false, true] (s_callV (As := [.int v4]) dX10_feed_42 rfl lvX10_103 ⟨Nat.le_of_ble_eq_true rfl, Nat.le_of_ble_eq_true rfl⟩ (hi.sh rfl rfl) ⟨_, _, by decide, rfl⟩ rfl (Nat.le_of_ble_eq_true rfl) (K)))))
theorem bX10_feed_45 {G : GX} {h : mH} {Q : mO → mH → Prop} {v5 : Int32} (hi : Iv h) (K : WM G jX9_lay [.ref 1, .int v5] h (Aft G jX10_feed 51 [some (.ref 0), none, none, none, none, none] [] Q)) : Vw G jX10_feed 45 [some (.ref 0), none, none, none, none, some (.int v5)] [] h Q :=
  s_aload_n dX10_feed_45 rfl (s_getR (v := .ref 1) dX10_feed_46 flX10_12 rfl (hi.sh rfl rfl) (hi.rf (o := 0) (k := 0) (d := 1) rfl rfl) (s_iload dX10_feed_49 rfl (Vw.mask [true, false, false, false, false, false] (s_callV (As := [.int v5]) dX10_feed_51 rfl lvX10_103 ⟨Nat.le_of_ble_eq_true rfl, Nat.le_of_ble_eq_true rfl⟩ (hi.sh rfl rfl) ⟨_, _, by decide, rfl⟩ rfl (Nat.le_of_ble_eq_true rfl) (K)))))
theorem bX10_feed_54 {G : GX} {h : mH} {Q : mO → mH → Prop} (hi : Iv h) (K : Q (.inl (some (.int (gI h 1 1)))) h) : Vw G jX10_feed 54 [some (.ref 0), none, none, none, none, none] [] h Q :=
  s_aload_n dX10_feed_54 rfl (s_getR (v := .ref 1) dX10_feed_55 flX10_12 rfl (hi.sh rfl rfl) (hi.rf (o := 0) (k := 0) (d := 1) rfl rfl) (s_getI dX10_feed_58 flX10_107 (Or.inl rfl) (hi.sh rfl rfl) (s_ireturn dX10_feed_61 rfl K)))
theorem eX10_feed {G : GX} {h : mH} {Q : mO → mH → Prop} {v1 : Int32} {v2 : Int32} {v3 : Int32} {v4 : Int32} {v5 : Int32} (hi : Iv h) (K : (¬ (fX9_hasRoom h) = 0 → WM G jX9_lay [.ref 1, .int v1] h (Aft G jX10_feed 17 [some (.ref 0), none, some (.int v2), some (.int v3), some (.int v4), some (.int v5)] [] Q)) ∧ ((fX9_hasRoom h) = 0 → Q (.inl (some (.int (-1)))) h)) : WM G jX10_feed [.ref 0, .int v1, .int v2, .int v3, .int v4, .int v5] h Q :=
  WM.body (ls := [some (.ref 0), some (.int v1), some (.int v2), some (.int v3), some (.int v4), some (.int v5)]) rfl (by decide +kernel) rfl (Nat.le_of_ble_eq_true rfl) rfl ((bX10_feed_0 hi  K))
theorem dX10_needBytes_0 : decode cX10_needBytes 0 = .ok (.iload_n 1, 1) := by decide +kernel
theorem dX10_needBytes_1 : decode cX10_needBytes 1 = .ok (.ifCond .lt 14, 3) := by decide +kernel
theorem dX10_needBytes_4 : decode cX10_needBytes 4 = .ok (.iload_n 1, 1) := by decide +kernel
theorem dX10_needBytes_5 : decode cX10_needBytes 5 = .ok (.aload_n 0, 1) := by decide +kernel
theorem dX10_needBytes_6 : decode cX10_needBytes 6 = .ok (.getfield 12, 3) := by decide +kernel
theorem dX10_needBytes_9 : decode cX10_needBytes 9 = .ok (.getfield 107, 3) := by decide +kernel
theorem dX10_needBytes_12 : decode cX10_needBytes 12 = .ok (.if_icmp .le 14, 3) := by decide +kernel
theorem dX10_needBytes_15 : decode cX10_needBytes 15 = .ok (.new 372, 3) := by decide +kernel
theorem dX10_needBytes_18 : decode cX10_needBytes 18 = .ok (.dup, 1) := by decide +kernel
theorem dX10_needBytes_19 : decode cX10_needBytes 19 = .ok (.ldc_w 374, 3) := by decide +kernel
theorem dX10_needBytes_22 : decode cX10_needBytes 22 = .ok (.invokespecial 376, 3) := by decide +kernel
theorem dX10_needBytes_25 : decode cX10_needBytes 25 = .ok (.athrow, 1) := by decide +kernel
theorem dX10_needBytes_26 : decode cX10_needBytes 26 = .ok (.return_, 1) := by decide +kernel
theorem bX10_needBytes_0 {G : GX} {h : mH} {Q : mO → mH → Prop} {v1 : Int32} (hi : Iv h) (K : (v1 < 0 → Vw G jX10_needBytes 15 [none, none] [] h Q) ∧ (¬ v1 < 0 → ((v1 ≤ (gI h 1 1) → Q (.inl none) h) ∧ (¬ v1 ≤ (gI h 1 1) → Vw G jX10_needBytes 15 [none, none] [] h Q)))) : Vw G jX10_needBytes 0 [some (.ref 0), some (.int v1)] [] h Q :=
  s_iload_n dX10_needBytes_0 rfl (s_if_lt 15 dX10_needBytes_1 rfl (fun q1 => Vw.mask [false, false] ((K.1 q1))) (fun q1 => s_iload_n dX10_needBytes_4 rfl (s_aload_n dX10_needBytes_5 rfl (s_getR (v := .ref 1) dX10_needBytes_6 flX10_12 rfl (hi.sh rfl rfl) (hi.rf (o := 0) (k := 0) (d := 1) rfl rfl) (s_getI dX10_needBytes_9 flX10_107 (Or.inl rfl) (hi.sh rfl rfl) (s_icmp_le 26 dX10_needBytes_12 rfl (fun q6 => s_return dX10_needBytes_26 rfl ((K.2 q1).1 q6)) (fun q6 => Vw.mask [false, false] (((K.2 q1).2 q6)))))))))
theorem bX10_needBytes_15 {G : GX} {h : mH} {Q : mO → mH → Prop} (hi : Iv h) (K : (h.1.length + 1 ≤ NC ∧ sl h + 6 ≤ NS) ∧ Q (.inr "java/lang/IllegalArgumentException") h ∧ ∀ n, n ≤ 6 → Q (.inr "java/lang/IllegalArgumentException") (aN h 200 n)) : Vw G jX10_needBytes 15 [none, none] [] h Q :=
  s_throw dX10_needBytes_15 dX10_needBytes_18 dX10_needBytes_19 dX10_needBytes_22 dX10_needBytes_25 rfl ktX10_374 (Nat.le_of_ble_eq_true rfl) (Nat.le_of_ble_eq_true rfl) K.1.1 K.1.2 K.2.1 K.2.2
theorem eX10_needBytes {G : GX} {h : mH} {Q : mO → mH → Prop} {v1 : Int32} (hi : Iv h) (K : (v1 < 0 → Vw G jX10_needBytes 15 [none, none] [] h Q) ∧ (¬ v1 < 0 → ((v1 ≤ (gI h 1 1) → Q (.inl none) h) ∧ (¬ v1 ≤ (gI h 1 1) → Vw G jX10_needBytes 15 [none, none] [] h Q)))) : WM G jX10_needBytes [.ref 0, .int v1] h Q :=
  WM.body (ls := [some (.ref 0), some (.int v1)]) rfl (by decide +kernel) rfl (Nat.le_of_ble_eq_true rfl) rfl ((bX10_needBytes_0 hi  K))
theorem dX10_endOfText_0 : decode cX10_endOfText 0 = .ok (.aload_n 0, 1) := by decide +kernel
theorem dX10_endOfText_1 : decode cX10_endOfText 1 = .ok (.getfield 12, 3) := by decide +kernel
theorem dX10_endOfText_4 : decode cX10_endOfText 4 = .ok (.iconst 0, 1) := by decide +kernel
theorem dX10_endOfText_5 : decode cX10_endOfText 5 = .ok (.putfield 107, 3) := by decide +kernel
theorem dX10_endOfText_8 : decode cX10_endOfText 8 = .ok (.aload_n 0, 1) := by decide +kernel
theorem dX10_endOfText_9 : decode cX10_endOfText 9 = .ok (.dup, 1) := by decide +kernel
theorem dX10_endOfText_10 : decode cX10_endOfText 10 = .ok (.getfield 95, 3) := by decide +kernel
theorem dX10_endOfText_13 : decode cX10_endOfText 13 = .ok (.iconst 1, 1) := by decide +kernel
theorem dX10_endOfText_14 : decode cX10_endOfText 14 = .ok (.iadd, 1) := by decide +kernel
theorem dX10_endOfText_15 : decode cX10_endOfText 15 = .ok (.putfield 95, 3) := by decide +kernel
theorem dX10_endOfText_18 : decode cX10_endOfText 18 = .ok (.aload_n 0, 1) := by decide +kernel
theorem dX10_endOfText_19 : decode cX10_endOfText 19 = .ok (.getfield 12, 3) := by decide +kernel
theorem dX10_endOfText_22 : decode cX10_endOfText 22 = .ok (.getfield 359, 3) := by decide +kernel
theorem dX10_endOfText_25 : decode cX10_endOfText 25 = .ok (.ifCond .eq 13, 3) := by decide +kernel
theorem dX10_endOfText_28 : decode cX10_endOfText 28 = .ok (.aload_n 0, 1) := by decide +kernel
theorem dX10_endOfText_29 : decode cX10_endOfText 29 = .ok (.getfield 92, 3) := by decide +kernel
theorem dX10_endOfText_32 : decode cX10_endOfText 32 = .ok (.iconst 0, 1) := by decide +kernel
theorem dX10_endOfText_33 : decode cX10_endOfText 33 = .ok (.dup2, 1) := by decide +kernel
theorem dX10_endOfText_34 : decode cX10_endOfText 34 = .ok (.iaload, 1) := by decide +kernel
theorem dX10_endOfText_35 : decode cX10_endOfText 35 = .ok (.iconst 1, 1) := by decide +kernel
theorem dX10_endOfText_36 : decode cX10_endOfText 36 = .ok (.iadd, 1) := by decide +kernel
theorem dX10_endOfText_37 : decode cX10_endOfText 37 = .ok (.iastore, 1) := by decide +kernel
theorem dX10_endOfText_38 : decode cX10_endOfText 38 = .ok (.aload_n 0, 1) := by decide +kernel
theorem dX10_endOfText_39 : decode cX10_endOfText 39 = .ok (.getfield 12, 3) := by decide +kernel
theorem dX10_endOfText_42 : decode cX10_endOfText 42 = .ok (.getfield 359, 3) := by decide +kernel
theorem dX10_endOfText_45 : decode cX10_endOfText 45 = .ok (.ireturn, 1) := by decide +kernel
theorem bX10_endOfText_0 {G : GX} {h : mH} {Q : mO → mH → Prop} (hi : Iv h) (K : ((gI (pI (pI h 1 1 0) 0 16 ((gI (pI h 1 1 0) 0 16) + 1)) 1 2) = 0 → Q (.inl (some (.int (gI (pI (pI h 1 1 0) 0 16 ((gI (pI h 1 1 0) 0 16) + 1)) 1 2)))) (pI (pI h 1 1 0) 0 16 ((gI (pI h 1 1 0) 0 16) + 1))) ∧ (¬ (gI (pI (pI h 1 1 0) 0 16 ((gI (pI h 1 1 0) 0 16) + 1)) 1 2) = 0 → Q (.inl (some (.int (gI (pI (pI (pI h 1 1 0) 0 16 ((gI (pI h 1 1 0) 0 16) + 1)) 82 0 ((gI (pI (pI h 1 1 0) 0 16 ((gI (pI h 1 1 0) 0 16) + 1)) 82 0) + 1)) 1 2)))) (pI (pI (pI h 1 1 0) 0 16 ((gI (pI h 1 1 0) 0 16) + 1)) 82 0 ((gI (pI (pI h 1 1 0) 0 16 ((gI (pI h 1 1 0) 0 16) + 1)) 82 0) + 1)))) : Vw G jX10_endOfText 0 [some (.ref 0)] [] h Q :=
  s_aload_n dX10_endOfText_0 rfl (s_getR (v := .ref 1) dX10_endOfText_1 flX10_12 rfl (hi.sh rfl rfl) (hi.rf (o := 0) (k := 0) (d := 1) rfl rfl) (s_iconst 0 dX10_endOfText_4 (by decide) (s_putI dX10_endOfText_5 flX10_107 ff8_1 rfl (hi.sh rfl rfl) (s_aload_n dX10_endOfText_8 rfl (s_dupr dX10_endOfText_9 (s_getI dX10_endOfText_10 flX10_95 (Or.inl rfl) (hi.sh rfl rfl) (s_iconst 1 dX10_endOfText_13 (by decide) (s_iadd dX10_endOfText_14 (s_putI dX10_endOfText_15 flX10_95 ff9_16 rfl (hi.sh rfl rfl) (s_aload_n dX10_endOfText_18 rfl (s_getR (v := .ref 1) dX10_endOfText_19 flX10_12 rfl (hi.sh rfl rfl) (hi.rf (o := 0) (k := 0) (d := 1) rfl rfl) (s_getI dX10_endOfText_22 flX10_359 (Or.inl rfl) (hi.sh rfl rfl) (s_if_eq 38 dX10_endOfText_25 rfl (fun q13 => s_aload_n dX10_endOfText_38 rfl (s_getR (v := .ref 1) dX10_endOfText_39 flX10_12 rfl (hi.sh rfl rfl) (hi.rf (o := 0) (k := 0) (d := 1) rfl rfl) (s_getI dX10_endOfText_42 flX10_359 (Or.inl rfl) (hi.sh rfl rfl) (s_ireturn dX10_endOfText_45 rfl (K.1 q13))))) (fun q13 => s_aload_n dX10_endOfText_28 rfl (s_getR (v := .ref 82) dX10_endOfText_29 flX10_92 rfl (hi.sh rfl rfl) (hi.rf (o := 0) (k := 15) (d := 82) rfl rfl) (s_iconst 0 dX10_endOfText_32 (by decide) (s_dup2ir dX10_endOfText_33 (s_iaload dX10_endOfText_34 (hi.sh rfl rfl) (by unfold vp_in; decide) (s_iconst 1 dX10_endOfText_35 (by decide) (s_iadd dX10_endOfText_36 (s_iastore dX10_endOfText_37 (hi.sh rfl rfl) (by unfold vp_in; decide) (s_aload_n dX10_endOfText_38 rfl (s_getR (v := .ref 1) dX10_endOfText_39 flX10_12 rfl (hi.sh rfl rfl) (hi.rf (o := 0) (k := 0) (d := 1) rfl rfl) (s_getI dX10_endOfText_42 flX10_359 (Or.inl rfl) (hi.sh rfl rfl) (s_ireturn dX10_endOfText_45 rfl (K.2 q13))))))))))))))))))))))))))
theorem eX10_endOfText {G : GX} {h : mH} {Q : mO → mH → Prop} (hi : Iv h) (K : ((gI (pI (pI h 1 1 0) 0 16 ((gI (pI h 1 1 0) 0 16) + 1)) 1 2) = 0 → Q (.inl (some (.int (gI (pI (pI h 1 1 0) 0 16 ((gI (pI h 1 1 0) 0 16) + 1)) 1 2)))) (pI (pI h 1 1 0) 0 16 ((gI (pI h 1 1 0) 0 16) + 1))) ∧ (¬ (gI (pI (pI h 1 1 0) 0 16 ((gI (pI h 1 1 0) 0 16) + 1)) 1 2) = 0 → Q (.inl (some (.int (gI (pI (pI (pI h 1 1 0) 0 16 ((gI (pI h 1 1 0) 0 16) + 1)) 82 0 ((gI (pI (pI h 1 1 0) 0 16 ((gI (pI h 1 1 0) 0 16) + 1)) 82 0) + 1)) 1 2)))) (pI (pI (pI h 1 1 0) 0 16 ((gI (pI h 1 1 0) 0 16) + 1)) 82 0 ((gI (pI (pI h 1 1 0) 0 16 ((gI (pI h 1 1 0) 0 16) + 1)) 82 0) + 1)))) : WM G jX10_endOfText [.ref 0] h Q :=
  WM.body (ls := [some (.ref 0)]) rfl (by decide +kernel) rfl (Nat.le_of_ble_eq_true rfl) rfl ((bX10_endOfText_0 hi  K))
theorem dX10_swings_0 : decode cX10_swings 0 = .ok (.aload_n 0, 1) := by decide +kernel
theorem dX10_swings_1 : decode cX10_swings 1 = .ok (.iload_n 1, 1) := by decide +kernel
theorem dX10_swings_2 : decode cX10_swings 2 = .ok (.invokevirtual 110, 3) := by decide +kernel
theorem dX10_swings_5 : decode cX10_swings 5 = .ok (.aload_n 0, 1) := by decide +kernel
theorem dX10_swings_6 : decode cX10_swings 6 = .ok (.getfield 12, 3) := by decide +kernel
theorem dX10_swings_9 : decode cX10_swings 9 = .ok (.iload_n 1, 1) := by decide +kernel
theorem dX10_swings_10 : decode cX10_swings 10 = .ok (.invokevirtual 113, 3) := by decide +kernel
theorem dX10_swings_13 : decode cX10_swings 13 = .ok (.aload_n 0, 1) := by decide +kernel
theorem dX10_swings_14 : decode cX10_swings 14 = .ok (.getfield 12, 3) := by decide +kernel
theorem dX10_swings_17 : decode cX10_swings 17 = .ok (.aload_n 0, 1) := by decide +kernel
theorem dX10_swings_18 : decode cX10_swings 18 = .ok (.getfield 23, 3) := by decide +kernel
theorem dX10_swings_21 : decode cX10_swings 21 = .ok (.invokestatic 116, 3) := by decide +kernel
theorem dX10_swings_24 : decode cX10_swings 24 = .ok (.ifCond .eq 41, 3) := by decide +kernel
theorem dX10_swings_27 : decode cX10_swings 27 = .ok (.aload_n 0, 1) := by decide +kernel
theorem dX10_swings_28 : decode cX10_swings 28 = .ok (.getfield 19, 3) := by decide +kernel
theorem dX10_swings_31 : decode cX10_swings 31 = .ok (.aload_n 0, 1) := by decide +kernel
theorem dX10_swings_32 : decode cX10_swings 32 = .ok (.getfield 23, 3) := by decide +kernel
theorem dX10_swings_35 : decode cX10_swings 35 = .ok (.invokevirtual 122, 3) := by decide +kernel
theorem dX10_swings_38 : decode cX10_swings 38 = .ok (.aload_n 0, 1) := by decide +kernel
theorem dX10_swings_39 : decode cX10_swings 39 = .ok (.getfield 32, 3) := by decide +kernel
theorem dX10_swings_42 : decode cX10_swings 42 = .ok (.invokevirtual 126, 3) := by decide +kernel
theorem dX10_swings_45 : decode cX10_swings 45 = .ok (.aload_n 0, 1) := by decide +kernel
theorem dX10_swings_46 : decode cX10_swings 46 = .ok (.getfield 46, 3) := by decide +kernel
theorem dX10_swings_49 : decode cX10_swings 49 = .ok (.iconst 0, 1) := by decide +kernel
theorem dX10_swings_50 : decode cX10_swings 50 = .ok (.putfield 129, 3) := by decide +kernel
theorem dX10_swings_53 : decode cX10_swings 53 = .ok (.aload_n 0, 1) := by decide +kernel
theorem dX10_swings_54 : decode cX10_swings 54 = .ok (.getfield 77, 3) := by decide +kernel
theorem dX10_swings_57 : decode cX10_swings 57 = .ok (.invokevirtual 132, 3) := by decide +kernel
theorem dX10_swings_60 : decode cX10_swings 60 = .ok (.aload_n 0, 1) := by decide +kernel
theorem dX10_swings_61 : decode cX10_swings 61 = .ok (.iconst 0, 1) := by decide +kernel
theorem dX10_swings_62 : decode cX10_swings 62 = .ok (.putfield 39, 3) := by decide +kernel
theorem dX10_swings_65 : decode cX10_swings 65 = .ok (.aload_n 0, 1) := by decide +kernel
theorem dX10_swings_66 : decode cX10_swings 66 = .ok (.invokevirtual 133, 3) := by decide +kernel
theorem dX10_swings_69 : decode cX10_swings 69 = .ok (.ireturn, 1) := by decide +kernel
theorem bX10_swings_0 {G : GX} {h : mH} {Q : mO → mH → Prop} {v1 : Int32} (hi : Iv h) (K : WM G jX10_needBytes [.ref 0, .int v1] h (Aft G jX10_swings 2 [some (.ref 0), some (.int v1)] [] Q)) : Vw G jX10_swings 0 [some (.ref 0), some (.int v1)] [] h Q :=
  s_aload_n dX10_swings_0 rfl (s_iload_n dX10_swings_1 rfl (s_callV (As := [.int v1]) dX10_swings_2 rfl lvX10_110 ⟨Nat.le_of_ble_eq_true rfl, Nat.le_of_ble_eq_true rfl⟩ (hi.sh rfl rfl) ⟨_, _, by decide, rfl⟩ rfl (Nat.le_of_ble_eq_true rfl) (K)))
theorem bX10_swings_5 {G : GX} {h : mH} {Q : mO → mH → Prop} {v1 : Int32} (hi : Iv h) (K : WM G jX9_begin [.ref 1, .int v1] h (Aft G jX10_swings 10 [some (.ref 0), none] [] Q)) : Vw G jX10_swings 5 [some (.ref 0), some (.int v1)] [] h Q :=
  s_aload_n dX10_swings_5 rfl (s_getR (v := .ref 1) dX10_swings_6 flX10_12 rfl (hi.sh rfl rfl) (hi.rf (o := 0) (k := 0) (d := 1) rfl rfl) (s_iload_n dX10_swings_9 rfl (Vw.mask [true, false] (s_callV (As := [.int v1]) dX10_swings_10 rfl lvX10_113 ⟨Nat.le_of_ble_eq_true rfl, Nat.le_of_ble_eq_true rfl⟩ (hi.sh rfl rfl) ⟨_, _, by decide, rfl⟩ rfl (Nat.le_of_ble_eq_true rfl) (K)))))
theorem bX10_swings_13 {G : GX} {h : mH} {Q : mO → mH → Prop} (hi : Iv h) (K : WM G jX8_read [.ref 1, .ref 13] h (Aft G jX10_swings 21 [some (.ref 0), none] [] Q)) : Vw G jX10_swings 13 [some (.ref 0), none] [] h Q :=
  s_aload_n dX10_swings_13 rfl (s_getR (v := .ref 1) dX10_swings_14 flX10_12 rfl (hi.sh rfl rfl) (hi.rf (o := 0) (k := 0) (d := 1) rfl rfl) (s_aload_n dX10_swings_17 rfl (s_getR (v := .ref 13) dX10_swings_18 flX10_23 rfl (hi.sh rfl rfl) (hi.rf (o := 0) (k := 2) (d := 13) rfl rfl) (s_callS (As := [.ref 1, .ref 13]) dX10_swings_21 rfl lsX10_116 ⟨Nat.le_of_ble_eq_true rfl, Nat.le_of_ble_eq_true rfl⟩ rfl (Nat.le_of_ble_eq_true rfl) (K)))))
theorem bX10_swings_24 {G : GX} {h : mH} {Q : mO → mH → Prop} {vs0 : Int32} (hi : Iv h) (K : (vs0 = 0 → Vw G jX10_swings 65 [some (.ref 0), none] [] h Q) ∧ (¬ vs0 = 0 → WM G jX2_copy [.ref 3, .ref 13] h (Aft G jX10_swings 35 [some (.ref 0), none] [] Q))) : Vw G jX10_swings 24 [some (.ref 0), none] [.int vs0] h Q :=
  s_if_eq 65 dX10_swings_24 rfl (fun q0 => (K.1 q0)) (fun q0 => s_aload_n dX10_swings_27 rfl (s_getR (v := .ref 3) dX10_swings_28 flX10_19 rfl (hi.sh rfl rfl) (hi.rf (o := 0) (k := 1) (d := 3) rfl rfl) (s_aload_n dX10_swings_31 rfl (s_getR (v := .ref 13) dX10_swings_32 flX10_23 rfl (hi.sh rfl rfl) (hi.rf (o := 0) (k := 2) (d := 13) rfl rfl) (s_callV (As := [.ref 13]) dX10_swings_35 rfl lvX10_122 ⟨Nat.le_of_ble_eq_true rfl, Nat.le_of_ble_eq_true rfl⟩ (hi.sh rfl rfl) ⟨_, _, by decide, rfl⟩ rfl (Nat.le_of_ble_eq_true rfl) ((K.2 q0)))))))
theorem bX10_swings_38 {G : GX} {h : mH} {Q : mO → mH → Prop} (hi : Iv h) (K : WM G jX3_clear [.ref 33] h (Aft G jX10_swings 42 [some (.ref 0), none] [] Q)) : Vw G jX10_swings 38 [some (.ref 0), none] [] h Q :=
  s_aload_n dX10_swings_38 rfl (s_getR (v := .ref 33) dX10_swings_39 flX10_32 rfl (hi.sh rfl rfl) (hi.rf (o := 0) (k := 4) (d := 33) rfl rfl) (s_callV (As := []) dX10_swings_42 rfl lvX10_126 ⟨Nat.le_of_ble_eq_true rfl, Nat.le_of_ble_eq_true rfl⟩ (hi.sh rfl rfl) ⟨_, _, by decide, rfl⟩ rfl (Nat.le_of_ble_eq_true rfl) (K)))
theorem bX10_swings_45 {G : GX} {h : mH} {Q : mO → mH → Prop} {rA7 : Nat} (hi : Iv h) (hA7 : gR h 0 7 = .ref rA7) (kA7 : kd rA7 = (7, 7)) (K : WM G jX0_clear [.ref 75] (pI h rA7 4 0) (Aft G jX10_swings 57 [some (.ref 0), none] [] Q)) : Vw G jX10_swings 45 [some (.ref 0), none] [] h Q :=
  s_aload_n dX10_swings_45 rfl (s_getR (v := .ref rA7) dX10_swings_46 flX10_46 rfl (hi.sh rfl rfl) hA7 (s_iconst 0 dX10_swings_49 (by decide) (s_putI dX10_swings_50 flX10_129 ff7_4 rfl (hi.sh kA7 rfl) (s_aload_n dX10_swings_53 rfl (s_getR (v := .ref 75) dX10_swings_54 flX10_77 rfl (hi.sh rfl rfl) (hi.rf (o := 0) (k := 12) (d := 75) rfl rfl) (s_callV (As := []) dX10_swings_57 rfl lvX10_132 ⟨Nat.le_of_ble_eq_true rfl, Nat.le_of_ble_eq_true rfl⟩ (hi.sh rfl rfl) ⟨_, _, by decide, rfl⟩ rfl (Nat.le_of_ble_eq_true rfl) (K)))))))
theorem bX10_swings_60 {G : GX} {h : mH} {Q : mO → mH → Prop} (hi : Iv h) (K : Vw G jX10_swings 65 [some (.ref 0), none] [] (pI h 0 6 0) Q) : Vw G jX10_swings 60 [some (.ref 0), none] [] h Q :=
  s_aload_n dX10_swings_60 rfl (s_iconst 0 dX10_swings_61 (by decide) (s_putZ dX10_swings_62 flX10_39 ff9_6 rfl (hi.sh rfl rfl) (by decide) (K)))
theorem bX10_swings_65 {G : GX} {h : mH} {Q : mO → mH → Prop} (hi : Iv h) (K : WM G jX10_endOfText [.ref 0] h (Aft G jX10_swings 66 [none, none] [] Q)) : Vw G jX10_swings 65 [some (.ref 0), none] [] h Q :=
  s_aload_n dX10_swings_65 rfl (Vw.mask [false, false] (s_callV (As := []) dX10_swings_66 rfl lvX10_133 ⟨Nat.le_of_ble_eq_true rfl, Nat.le_of_ble_eq_true rfl⟩ (hi.sh rfl rfl) ⟨_, _, by decide, rfl⟩ rfl (Nat.le_of_ble_eq_true rfl) (K)))
theorem bX10_swings_69 {G : GX} {h : mH} {Q : mO → mH → Prop} {vs0 : Int32} (hi : Iv h) (K : Q (.inl (some (.int vs0))) h) : Vw G jX10_swings 69 [none, none] [.int vs0] h Q :=
  s_ireturn dX10_swings_69 rfl K
theorem eX10_swings {G : GX} {h : mH} {Q : mO → mH → Prop} {v1 : Int32} (hi : Iv h) (K : WM G jX10_needBytes [.ref 0, .int v1] h (Aft G jX10_swings 2 [some (.ref 0), some (.int v1)] [] Q)) : WM G jX10_swings [.ref 0, .int v1] h Q :=
  WM.body (ls := [some (.ref 0), some (.int v1)]) rfl (by decide +kernel) rfl (Nat.le_of_ble_eq_true rfl) rfl ((bX10_swings_0 hi  K))
theorem dX10_score_0 : decode cX10_score 0 = .ok (.aload_n 0, 1) := by decide +kernel
theorem dX10_score_1 : decode cX10_score 1 = .ok (.iload_n 1, 1) := by decide +kernel
theorem dX10_score_2 : decode cX10_score 2 = .ok (.invokevirtual 110, 3) := by decide +kernel
theorem dX10_score_5 : decode cX10_score 5 = .ok (.aload_n 0, 1) := by decide +kernel
theorem dX10_score_6 : decode cX10_score 6 = .ok (.getfield 12, 3) := by decide +kernel
theorem dX10_score_9 : decode cX10_score 9 = .ok (.iload_n 1, 1) := by decide +kernel
theorem dX10_score_10 : decode cX10_score 10 = .ok (.invokevirtual 113, 3) := by decide +kernel
theorem dX10_score_13 : decode cX10_score 13 = .ok (.aload_n 0, 1) := by decide +kernel
theorem dX10_score_14 : decode cX10_score 14 = .ok (.getfield 50, 3) := by decide +kernel
theorem dX10_score_17 : decode cX10_score 17 = .ok (.aload_n 0, 1) := by decide +kernel
theorem dX10_score_18 : decode cX10_score 18 = .ok (.getfield 12, 3) := by decide +kernel
theorem dX10_score_21 : decode cX10_score 21 = .ok (.invokevirtual 137, 3) := by decide +kernel
theorem dX10_score_24 : decode cX10_score 24 = .ok (.ifCond .eq 21, 3) := by decide +kernel
theorem dX10_score_27 : decode cX10_score 27 = .ok (.aload_n 0, 1) := by decide +kernel
theorem dX10_score_28 : decode cX10_score 28 = .ok (.getfield 46, 3) := by decide +kernel
theorem dX10_score_31 : decode cX10_score 31 = .ok (.astore_n 2, 1) := by decide +kernel
theorem dX10_score_32 : decode cX10_score 32 = .ok (.aload_n 0, 1) := by decide +kernel
theorem dX10_score_33 : decode cX10_score 33 = .ok (.aload_n 0, 1) := by decide +kernel
theorem dX10_score_34 : decode cX10_score 34 = .ok (.getfield 50, 3) := by decide +kernel
theorem dX10_score_37 : decode cX10_score 37 = .ok (.putfield 46, 3) := by decide +kernel
theorem dX10_score_40 : decode cX10_score 40 = .ok (.aload_n 0, 1) := by decide +kernel
theorem dX10_score_41 : decode cX10_score 41 = .ok (.aload_n 2, 1) := by decide +kernel
theorem dX10_score_42 : decode cX10_score 42 = .ok (.putfield 50, 3) := by decide +kernel
theorem dX10_score_45 : decode cX10_score 45 = .ok (.aload_n 0, 1) := by decide +kernel
theorem dX10_score_46 : decode cX10_score 46 = .ok (.invokevirtual 133, 3) := by decide +kernel
theorem dX10_score_49 : decode cX10_score 49 = .ok (.ireturn, 1) := by decide +kernel
theorem bX10_score_0 {G : GX} {h : mH} {Q : mO → mH → Prop} {v1 : Int32} (hi : Iv h) (K : WM G jX10_needBytes [.ref 0, .int v1] h (Aft G jX10_score 2 [some (.ref 0), some (.int v1), none] [] Q)) : Vw G jX10_score 0 [some (.ref 0), some (.int v1), none] [] h Q :=
  s_aload_n dX10_score_0 rfl (s_iload_n dX10_score_1 rfl (s_callV (As := [.int v1]) dX10_score_2 rfl lvX10_110 ⟨Nat.le_of_ble_eq_true rfl, Nat.le_of_ble_eq_true rfl⟩ (hi.sh rfl rfl) ⟨_, _, by decide, rfl⟩ rfl (Nat.le_of_ble_eq_true rfl) (K)))
theorem bX10_score_5 {G : GX} {h : mH} {Q : mO → mH → Prop} {v1 : Int32} (hi : Iv h) (K : WM G jX9_begin [.ref 1, .int v1] h (Aft G jX10_score 10 [some (.ref 0), none, none] [] Q)) : Vw G jX10_score 5 [some (.ref 0), some (.int v1), none] [] h Q :=
  s_aload_n dX10_score_5 rfl (s_getR (v := .ref 1) dX10_score_6 flX10_12 rfl (hi.sh rfl rfl) (hi.rf (o := 0) (k := 0) (d := 1) rfl rfl) (s_iload_n dX10_score_9 rfl (Vw.mask [true, false, false] (s_callV (As := [.int v1]) dX10_score_10 rfl lvX10_113 ⟨Nat.le_of_ble_eq_true rfl, Nat.le_of_ble_eq_true rfl⟩ (hi.sh rfl rfl) ⟨_, _, by decide, rfl⟩ rfl (Nat.le_of_ble_eq_true rfl) (K)))))
theorem bX10_score_13 {G : GX} {h : mH} {Q : mO → mH → Prop} {rA8 : Nat} (hi : Iv h) (hA8 : gR h 0 8 = .ref rA8) (kA8 : kd rA8 = (7, 7)) (K : WM G jX7_read [.ref rA8, .ref 1] h (Aft G jX10_score 21 [some (.ref 0), none, none] [] Q)) : Vw G jX10_score 13 [some (.ref 0), none, none] [] h Q :=
  s_aload_n dX10_score_13 rfl (s_getR (v := .ref rA8) dX10_score_14 flX10_50 rfl (hi.sh rfl rfl) hA8 (s_aload_n dX10_score_17 rfl (s_getR (v := .ref 1) dX10_score_18 flX10_12 rfl (hi.sh rfl rfl) (hi.rf (o := 0) (k := 0) (d := 1) rfl rfl) (s_callV (As := [.ref 1]) dX10_score_21 rfl lvX10_137 ⟨Nat.le_of_ble_eq_true rfl, Nat.le_of_ble_eq_true rfl⟩ (hi.sh kA8 rfl) ⟨_, _, by decide, rfl⟩ rfl (Nat.le_of_ble_eq_true rfl) (K)))))
theorem bX10_score_24 {G : GX} {h : mH} {Q : mO → mH → Prop} {vs0 : Int32} {rA7 : Nat} {rA8 : Nat} (hi : Iv h) (hA7 : gR h 0 7 = .ref rA7) (kA7 : kd rA7 = (7, 7)) (hA8 : gR h 0 8 = .ref rA8) (kA8 : kd rA8 = (7, 7)) (K : (vs0 = 0 → Vw G jX10_score 45 [some (.ref 0), none, none] [] h Q) ∧ (¬ vs0 = 0 → Vw G jX10_score 45 [some (.ref 0), none, none] [] (pR (pR h 0 7 (.ref rA8)) 0 8 (.ref rA7)) Q)) : Vw G jX10_score 24 [some (.ref 0), none, none] [.int vs0] h Q :=
  s_if_eq 45 dX10_score_24 rfl (fun q0 => (K.1 q0)) (fun q0 => s_aload_n dX10_score_27 rfl (s_getR (v := .ref rA7) dX10_score_28 flX10_46 rfl (hi.sh rfl rfl) hA7 (s_astore_n dX10_score_31 (Nat.le_of_ble_eq_true rfl) rfl (s_aload_n dX10_score_32 rfl (s_aload_n dX10_score_33 rfl (s_getR (v := .ref rA8) dX10_score_34 flX10_50 rfl (hi.sh rfl rfl) hA8 (s_putR false dX10_score_37 flX10_46 ff9_7 (fun z => by cases z) rfl (hi.sh rfl rfl) (s_aload_n dX10_score_40 rfl (s_aload_n dX10_score_41 rfl (s_putR false dX10_score_42 flX10_50 ff9_8 (fun z => by cases z) rfl ((hi.dy7).sh rfl rfl) (Vw.mask [true, false, false] ((K.2 q0)))))))))))))
theorem bX10_score_45 {G : GX} {h : mH} {Q : mO → mH → Prop} (hi : Iv h) (K : WM G jX10_endOfText [.ref 0] h (Aft G jX10_score 46 [none, none, none] [] Q)) : Vw G jX10_score 45 [some (.ref 0), none, none] [] h Q :=
  s_aload_n dX10_score_45 rfl (Vw.mask [false, false, false] (s_callV (As := []) dX10_score_46 rfl lvX10_133 ⟨Nat.le_of_ble_eq_true rfl, Nat.le_of_ble_eq_true rfl⟩ (hi.sh rfl rfl) ⟨_, _, by decide, rfl⟩ rfl (Nat.le_of_ble_eq_true rfl) (K)))
theorem bX10_score_49 {G : GX} {h : mH} {Q : mO → mH → Prop} {vs0 : Int32} (hi : Iv h) (K : Q (.inl (some (.int vs0))) h) : Vw G jX10_score 49 [none, none, none] [.int vs0] h Q :=
  s_ireturn dX10_score_49 rfl K
theorem eX10_score {G : GX} {h : mH} {Q : mO → mH → Prop} {v1 : Int32} (hi : Iv h) (K : WM G jX10_needBytes [.ref 0, .int v1] h (Aft G jX10_score 2 [some (.ref 0), some (.int v1), none] [] Q)) : WM G jX10_score [.ref 0, .int v1] h Q :=
  WM.body (ls := [some (.ref 0), some (.int v1), none]) rfl (by decide +kernel) rfl (Nat.le_of_ble_eq_true rfl) rfl ((bX10_score_0 hi  K))
theorem dX10_needWhat_0 : decode cX10_needWhat 0 = .ok (.iload_n 0, 1) := by decide +kernel
theorem dX10_needWhat_1 : decode cX10_needWhat 1 = .ok (.ifCond .lt 8, 3) := by decide +kernel
theorem dX10_needWhat_4 : decode cX10_needWhat 4 = .ok (.iload_n 0, 1) := by decide +kernel
theorem dX10_needWhat_5 : decode cX10_needWhat 5 = .ok (.iload_n 1, 1) := by decide +kernel
theorem dX10_needWhat_6 : decode cX10_needWhat 6 = .ok (.if_icmp .le 14, 3) := by decide +kernel
theorem dX10_needWhat_9 : decode cX10_needWhat 9 = .ok (.new 342, 3) := by decide +kernel
theorem dX10_needWhat_12 : decode cX10_needWhat 12 = .ok (.dup, 1) := by decide +kernel
theorem dX10_needWhat_13 : decode cX10_needWhat 13 = .ok (.ldc_w 381, 3) := by decide +kernel
theorem dX10_needWhat_16 : decode cX10_needWhat 16 = .ok (.invokespecial 346, 3) := by decide +kernel
theorem dX10_needWhat_19 : decode cX10_needWhat 19 = .ok (.athrow, 1) := by decide +kernel
theorem dX10_needWhat_20 : decode cX10_needWhat 20 = .ok (.return_, 1) := by decide +kernel
theorem bX10_needWhat_0 {G : GX} {h : mH} {Q : mO → mH → Prop} {v0 : Int32} {v1 : Int32} (hi : Iv h) (K : (v0 < 0 → Vw G jX10_needWhat 9 [none, none] [] h Q) ∧ (¬ v0 < 0 → ((v0 ≤ v1 → Q (.inl none) h) ∧ (¬ v0 ≤ v1 → Vw G jX10_needWhat 9 [none, none] [] h Q)))) : Vw G jX10_needWhat 0 [some (.int v0), some (.int v1)] [] h Q :=
  s_iload_n dX10_needWhat_0 rfl (s_if_lt 9 dX10_needWhat_1 rfl (fun q1 => Vw.mask [false, false] ((K.1 q1))) (fun q1 => s_iload_n dX10_needWhat_4 rfl (s_iload_n dX10_needWhat_5 rfl (s_icmp_le 20 dX10_needWhat_6 rfl (fun q4 => s_return dX10_needWhat_20 rfl ((K.2 q1).1 q4)) (fun q4 => Vw.mask [false, false] (((K.2 q1).2 q4)))))))
theorem bX10_needWhat_9 {G : GX} {h : mH} {Q : mO → mH → Prop} (hi : Iv h) (K : (h.1.length + 1 ≤ NC ∧ sl h + 6 ≤ NS) ∧ Q (.inr "java/util/NoSuchElementException") h ∧ ∀ n, n ≤ 6 → Q (.inr "java/util/NoSuchElementException") (aN h 200 n)) : Vw G jX10_needWhat 9 [none, none] [] h Q :=
  s_throw dX10_needWhat_9 dX10_needWhat_12 dX10_needWhat_13 dX10_needWhat_16 dX10_needWhat_19 rfl ktX10_381 (Nat.le_of_ble_eq_true rfl) (Nat.le_of_ble_eq_true rfl) K.1.1 K.1.2 K.2.1 K.2.2
theorem eX10_needWhat {G : GX} {h : mH} {Q : mO → mH → Prop} {v0 : Int32} {v1 : Int32} (hi : Iv h) (K : (v0 < 0 → Vw G jX10_needWhat 9 [none, none] [] h Q) ∧ (¬ v0 < 0 → ((v0 ≤ v1 → Q (.inl none) h) ∧ (¬ v0 ≤ v1 → Vw G jX10_needWhat 9 [none, none] [] h Q)))) : WM G jX10_needWhat [.int v0, .int v1] h Q :=
  WM.body (ls := [some (.int v0), some (.int v1)]) rfl (by decide +kernel) rfl (Nat.le_of_ble_eq_true rfl) rfl ((bX10_needWhat_0 hi  K))
theorem dX10_performed_0 : decode cX10_performed 0 = .ok (.iload_n 1, 1) := by decide +kernel
theorem dX10_performed_1 : decode cX10_performed 1 = .ok (.iconst 3, 1) := by decide +kernel
theorem dX10_performed_2 : decode cX10_performed 2 = .ok (.invokestatic 140, 3) := by decide +kernel
theorem dX10_performed_5 : decode cX10_performed 5 = .ok (.aload_n 0, 1) := by decide +kernel
theorem dX10_performed_6 : decode cX10_performed 6 = .ok (.getfield 56, 3) := by decide +kernel
theorem dX10_performed_9 : decode cX10_performed 9 = .ok (.aload_n 0, 1) := by decide +kernel
theorem dX10_performed_10 : decode cX10_performed 10 = .ok (.getfield 46, 3) := by decide +kernel
theorem dX10_performed_13 : decode cX10_performed 13 = .ok (.aload_n 0, 1) := by decide +kernel
theorem dX10_performed_14 : decode cX10_performed 14 = .ok (.getfield 19, 3) := by decide +kernel
theorem dX10_performed_17 : decode cX10_performed 17 = .ok (.aload_n 0, 1) := by decide +kernel
theorem dX10_performed_18 : decode cX10_performed 18 = .ok (.getfield 95, 3) := by decide +kernel
theorem dX10_performed_21 : decode cX10_performed 21 = .ok (.invokevirtual 144, 3) := by decide +kernel
theorem dX10_performed_24 : decode cX10_performed 24 = .ok (.aload_n 0, 1) := by decide +kernel
theorem dX10_performed_25 : decode cX10_performed 25 = .ok (.getfield 56, 3) := by decide +kernel
theorem dX10_performed_28 : decode cX10_performed 28 = .ok (.getfield 148, 3) := by decide +kernel
theorem dX10_performed_31 : decode cX10_performed 31 = .ok (.ifCond .eq 6, 3) := by decide +kernel
theorem dX10_performed_34 : decode cX10_performed 34 = .ok (.bipush (-2), 2) := by decide +kernel
theorem dX10_performed_36 : decode cX10_performed 36 = .ok (.ireturn, 1) := by decide +kernel
theorem dX10_performed_37 : decode cX10_performed 37 = .ok (.iload_n 1, 1) := by decide +kernel
theorem dX10_performed_38 : decode cX10_performed 38 = .ok (.tableswitch 50 0 2 #[26, 34, 42], 26) := by decide +kernel
theorem dX10_performed_64 : decode cX10_performed 64 = .ok (.aload_n 0, 1) := by decide +kernel
theorem dX10_performed_65 : decode cX10_performed 65 = .ok (.getfield 56, 3) := by decide +kernel
theorem dX10_performed_68 : decode cX10_performed 68 = .ok (.getfield 151, 3) := by decide +kernel
theorem dX10_performed_71 : decode cX10_performed 71 = .ok (.ireturn, 1) := by decide +kernel
theorem dX10_performed_72 : decode cX10_performed 72 = .ok (.aload_n 0, 1) := by decide +kernel
theorem dX10_performed_73 : decode cX10_performed 73 = .ok (.getfield 56, 3) := by decide +kernel
theorem dX10_performed_76 : decode cX10_performed 76 = .ok (.getfield 154, 3) := by decide +kernel
theorem dX10_performed_79 : decode cX10_performed 79 = .ok (.ireturn, 1) := by decide +kernel
theorem dX10_performed_80 : decode cX10_performed 80 = .ok (.aload_n 0, 1) := by decide +kernel
theorem dX10_performed_81 : decode cX10_performed 81 = .ok (.getfield 56, 3) := by decide +kernel
theorem dX10_performed_84 : decode cX10_performed 84 = .ok (.getfield 157, 3) := by decide +kernel
theorem dX10_performed_87 : decode cX10_performed 87 = .ok (.ireturn, 1) := by decide +kernel
theorem dX10_performed_88 : decode cX10_performed 88 = .ok (.aload_n 0, 1) := by decide +kernel
theorem dX10_performed_89 : decode cX10_performed 89 = .ok (.getfield 56, 3) := by decide +kernel
theorem dX10_performed_92 : decode cX10_performed 92 = .ok (.invokevirtual 160, 3) := by decide +kernel
theorem dX10_performed_95 : decode cX10_performed 95 = .ok (.ireturn, 1) := by decide +kernel
theorem bX10_performed_0 {G : GX} {h : mH} {Q : mO → mH → Prop} {v1 : Int32} (hi : Iv h) (K : WM G jX10_needWhat [.int v1, .int 3] h (Aft G jX10_performed 2 [some (.ref 0), some (.int v1)] [] Q)) : Vw G jX10_performed 0 [some (.ref 0), some (.int v1)] [] h Q :=
  s_iload_n dX10_performed_0 rfl (s_iconst 3 dX10_performed_1 (by decide) (s_callS (As := [.int v1, .int 3]) dX10_performed_2 rfl lsX10_140 ⟨Nat.le_of_ble_eq_true rfl, Nat.le_of_ble_eq_true rfl⟩ rfl (Nat.le_of_ble_eq_true rfl) (K)))
theorem bX10_performed_5 {G : GX} {h : mH} {Q : mO → mH → Prop} {v1 : Int32} {rA7 : Nat} (hi : Iv h) (hA7 : gR h 0 7 = .ref rA7) (kA7 : kd rA7 = (7, 7)) (K : WM G jX6_play [.ref 55, .ref rA7, .ref 3, .int (gI h 0 16)] h (Aft G jX10_performed 21 [some (.ref 0), some (.int v1)] [] Q)) : Vw G jX10_performed 5 [some (.ref 0), some (.int v1)] [] h Q :=
  s_aload_n dX10_performed_5 rfl (s_getR (v := .ref 55) dX10_performed_6 flX10_56 rfl (hi.sh rfl rfl) (hi.rf (o := 0) (k := 9) (d := 55) rfl rfl) (s_aload_n dX10_performed_9 rfl (s_getR (v := .ref rA7) dX10_performed_10 flX10_46 rfl (hi.sh rfl rfl) hA7 (s_aload_n dX10_performed_13 rfl (s_getR (v := .ref 3) dX10_performed_14 flX10_19 rfl (hi.sh rfl rfl) (hi.rf (o := 0) (k := 1) (d := 3) rfl rfl) (s_aload_n dX10_performed_17 rfl (s_getI dX10_performed_18 flX10_95 (Or.inl rfl) (hi.sh rfl rfl) (s_callV (As := [.ref rA7, .ref 3, .int (gI h 0 16)]) dX10_performed_21 rfl lvX10_144 ⟨Nat.le_of_ble_eq_true rfl, Nat.le_of_ble_eq_true rfl⟩ (hi.sh rfl rfl) ⟨_, _, by decide, rfl⟩ rfl (Nat.le_of_ble_eq_true rfl) (K)))))))))
theorem bX10_performed_24 {G : GX} {h : mH} {Q : mO → mH → Prop} {v1 : Int32} (hi : Iv h) (K : ((gI h 55 5) = 0 → ((v1 = 0 → Q (.inl (some (.int (gI h 55 3)))) h) ∧ (v1 = 1 → Q (.inl (some (.int (gI h 55 2)))) h) ∧ (v1 = 2 → Q (.inl (some (.int (gI h 55 4)))) h) ∧ (¬ v1 = 0 → ¬ v1 = 1 → ¬ v1 = 2 → WM G jX6_cell [.ref 55] h (Aft G jX10_performed 92 [none, none] [] Q)))) ∧ (¬ (gI h 55 5) = 0 → Q (.inl (some (.int (-2)))) h)) : Vw G jX10_performed 24 [some (.ref 0), some (.int v1)] [] h Q :=
  s_aload_n dX10_performed_24 rfl (s_getR (v := .ref 55) dX10_performed_25 flX10_56 rfl (hi.sh rfl rfl) (hi.rf (o := 0) (k := 9) (d := 55) rfl rfl) (s_getI dX10_performed_28 flX10_148 (Or.inr rfl) (hi.sh rfl rfl) (s_if_eq 37 dX10_performed_31 rfl (fun q3 => s_iload_n dX10_performed_37 rfl (Decidable.byCases (fun e5_0 => s_tableIn 64 dX10_performed_38 (by rw [e5_0] <;> decide) (by rw [e5_0] <;> decide) (by rw [e5_0] <;> rfl) rfl (s_aload_n dX10_performed_64 rfl (s_getR (v := .ref 55) dX10_performed_65 flX10_56 rfl (hi.sh rfl rfl) (hi.rf (o := 0) (k := 9) (d := 55) rfl rfl) (s_getI dX10_performed_68 flX10_151 (Or.inl rfl) (hi.sh rfl rfl) (s_ireturn dX10_performed_71 rfl ((K.1 q3).1 e5_0)))))) (fun e5_0 => Decidable.byCases (fun e5_1 => s_tableIn 72 dX10_performed_38 (by rw [e5_1] <;> decide) (by rw [e5_1] <;> decide) (by rw [e5_1] <;> rfl) rfl (s_aload_n dX10_performed_72 rfl (s_getR (v := .ref 55) dX10_performed_73 flX10_56 rfl (hi.sh rfl rfl) (hi.rf (o := 0) (k := 9) (d := 55) rfl rfl) (s_getI dX10_performed_76 flX10_154 (Or.inl rfl) (hi.sh rfl rfl) (s_ireturn dX10_performed_79 rfl ((K.1 q3).2.1 e5_1)))))) (fun e5_1 => Decidable.byCases (fun e5_2 => s_tableIn 80 dX10_performed_38 (by rw [e5_2] <;> decide) (by rw [e5_2] <;> decide) (by rw [e5_2] <;> rfl) rfl (s_aload_n dX10_performed_80 rfl (s_getR (v := .ref 55) dX10_performed_81 flX10_56 rfl (hi.sh rfl rfl) (hi.rf (o := 0) (k := 9) (d := 55) rfl rfl) (s_getI dX10_performed_84 flX10_157 (Or.inl rfl) (hi.sh rfl rfl) (s_ireturn dX10_performed_87 rfl ((K.1 q3).2.2.1 e5_2)))))) (fun e5_2 => s_tableOut 88 dX10_performed_38 (sw_out [0, 1, 2] (by simp only [List.forall_mem_cons]; exact ⟨e5_0, e5_1, e5_2, fun _ hh => nomatch hh⟩) (fun k z1 z2 => by rcases (show k = 0 ∨ k = 1 ∨ k = 2 by omega) with rfl | rfl | rfl <;> decide)) rfl (s_aload_n dX10_performed_88 rfl (s_getR (v := .ref 55) dX10_performed_89 flX10_56 rfl (hi.sh rfl rfl) (hi.rf (o := 0) (k := 9) (d := 55) rfl rfl) (Vw.mask [false, false] (s_callV (As := []) dX10_performed_92 rfl lvX10_160 ⟨Nat.le_of_ble_eq_true rfl, Nat.le_of_ble_eq_true rfl⟩ (hi.sh rfl rfl) ⟨_, _, by decide, rfl⟩ rfl (Nat.le_of_ble_eq_true rfl) (((K.1 q3).2.2.2 e5_0 e5_1 e5_2))))))))))) (fun q3 => s_bipush (-2) dX10_performed_34 (by decide) (s_ireturn dX10_performed_36 rfl (K.2 q3))))))
theorem bX10_performed_95 {G : GX} {h : mH} {Q : mO → mH → Prop} {vs0 : Int32} (hi : Iv h) (K : Q (.inl (some (.int vs0))) h) : Vw G jX10_performed 95 [none, none] [.int vs0] h Q :=
  s_ireturn dX10_performed_95 rfl K
theorem eX10_performed {G : GX} {h : mH} {Q : mO → mH → Prop} {v1 : Int32} (hi : Iv h) (K : WM G jX10_needWhat [.int v1, .int 3] h (Aft G jX10_performed 2 [some (.ref 0), some (.int v1)] [] Q)) : WM G jX10_performed [.ref 0, .int v1] h Q :=
  WM.body (ls := [some (.ref 0), some (.int v1)]) rfl (by decide +kernel) rfl (Nat.le_of_ble_eq_true rfl) rfl ((bX10_performed_0 hi  K))
theorem dX10_needCell_0 : decode cX10_needCell 0 = .ok (.iload_n 0, 1) := by decide +kernel
theorem dX10_needCell_1 : decode cX10_needCell 1 = .ok (.invokestatic 369, 3) := by decide +kernel
theorem dX10_needCell_4 : decode cX10_needCell 4 = .ok (.ifCond .ne 14, 3) := by decide +kernel
theorem dX10_needCell_7 : decode cX10_needCell 7 = .ok (.new 342, 3) := by decide +kernel
theorem dX10_needCell_10 : decode cX10_needCell 10 = .ok (.dup, 1) := by decide +kernel
theorem dX10_needCell_11 : decode cX10_needCell 11 = .ok (.ldc_w 383, 3) := by decide +kernel
theorem dX10_needCell_14 : decode cX10_needCell 14 = .ok (.invokespecial 346, 3) := by decide +kernel
theorem dX10_needCell_17 : decode cX10_needCell 17 = .ok (.athrow, 1) := by decide +kernel
theorem dX10_needCell_18 : decode cX10_needCell 18 = .ok (.return_, 1) := by decide +kernel
theorem bX10_needCell_0 {G : GX} {h : mH} {Q : mO → mH → Prop} {v0 : Int32} (hi : Iv h) (K : (¬ (fX10_isCell v0) = 0 → Q (.inl none) h) ∧ ((fX10_isCell v0) = 0 → ((h.1.length + 1 ≤ NC ∧ sl h + 6 ≤ NS) ∧ Q (.inr "java/util/NoSuchElementException") h ∧ ∀ n, n ≤ 6 → Q (.inr "java/util/NoSuchElementException") (aN h 200 n)))) : Vw G jX10_needCell 0 [some (.int v0)] [] h Q :=
  s_iload_n dX10_needCell_0 rfl (s_callS (As := [.int v0]) dX10_needCell_1 rfl lsX10_369 ⟨Nat.le_of_ble_eq_true rfl, Nat.le_of_ble_eq_true rfl⟩ rfl (Nat.le_of_ble_eq_true rfl) (mX10_isCell   (s_if_ne 18 dX10_needCell_4 rfl (fun q2 => s_return dX10_needCell_18 rfl (K.1 q2)) (fun q2 => s_throw dX10_needCell_7 dX10_needCell_10 dX10_needCell_11 dX10_needCell_14 dX10_needCell_17 rfl ktX10_383 (Nat.le_of_ble_eq_true rfl) (Nat.le_of_ble_eq_true rfl) (K.2 q2).1.1 (K.2 q2).1.2 (K.2 q2).2.1 (K.2 q2).2.2))))
theorem eX10_needCell {G : GX} {h : mH} {Q : mO → mH → Prop} {v0 : Int32} (hi : Iv h) (K : (¬ (fX10_isCell v0) = 0 → Q (.inl none) h) ∧ ((fX10_isCell v0) = 0 → ((h.1.length + 1 ≤ NC ∧ sl h + 6 ≤ NS) ∧ Q (.inr "java/util/NoSuchElementException") h ∧ ∀ n, n ≤ 6 → Q (.inr "java/util/NoSuchElementException") (aN h 200 n)))) : WM G jX10_needCell [.int v0] h Q :=
  WM.body (ls := [some (.int v0)]) rfl (by decide +kernel) rfl (Nat.le_of_ble_eq_true rfl) rfl ((bX10_needCell_0 hi  K))
theorem dX10_marks_0 : decode cX10_marks 0 = .ok (.iload_n 1, 1) := by decide +kernel
theorem dX10_marks_1 : decode cX10_marks 1 = .ok (.invokestatic 163, 3) := by decide +kernel
theorem dX10_marks_4 : decode cX10_marks 4 = .ok (.aload_n 0, 1) := by decide +kernel
theorem dX10_marks_5 : decode cX10_marks 5 = .ok (.getfield 56, 3) := by decide +kernel
theorem dX10_marks_8 : decode cX10_marks 8 = .ok (.aload_n 0, 1) := by decide +kernel
theorem dX10_marks_9 : decode cX10_marks 9 = .ok (.getfield 46, 3) := by decide +kernel
theorem dX10_marks_12 : decode cX10_marks 12 = .ok (.aload_n 0, 1) := by decide +kernel
theorem dX10_marks_13 : decode cX10_marks 13 = .ok (.getfield 19, 3) := by decide +kernel
theorem dX10_marks_16 : decode cX10_marks 16 = .ok (.aload_n 0, 1) := by decide +kernel
theorem dX10_marks_17 : decode cX10_marks 17 = .ok (.getfield 95, 3) := by decide +kernel
theorem dX10_marks_20 : decode cX10_marks 20 = .ok (.invokevirtual 144, 3) := by decide +kernel
theorem dX10_marks_23 : decode cX10_marks 23 = .ok (.aload_n 0, 1) := by decide +kernel
theorem dX10_marks_24 : decode cX10_marks 24 = .ok (.getfield 56, 3) := by decide +kernel
theorem dX10_marks_27 : decode cX10_marks 27 = .ok (.getfield 148, 3) := by decide +kernel
theorem dX10_marks_30 : decode cX10_marks 30 = .ok (.ifCond .eq 8, 3) := by decide +kernel
theorem dX10_marks_33 : decode cX10_marks 33 = .ok (.bipush (-2), 2) := by decide +kernel
theorem dX10_marks_35 : decode cX10_marks 35 = .ok (.goto 12, 3) := by decide +kernel
theorem dX10_marks_38 : decode cX10_marks 38 = .ok (.aload_n 0, 1) := by decide +kernel
theorem dX10_marks_39 : decode cX10_marks 39 = .ok (.getfield 56, 3) := by decide +kernel
theorem dX10_marks_42 : decode cX10_marks 42 = .ok (.getfield 166, 3) := by decide +kernel
theorem dX10_marks_45 : decode cX10_marks 45 = .ok (.iload_n 1, 1) := by decide +kernel
theorem dX10_marks_46 : decode cX10_marks 46 = .ok (.iaload, 1) := by decide +kernel
theorem dX10_marks_47 : decode cX10_marks 47 = .ok (.ireturn, 1) := by decide +kernel
theorem bX10_marks_0 {G : GX} {h : mH} {Q : mO → mH → Prop} {v1 : Int32} (hi : Iv h) (K : WM G jX10_needCell [.int v1] h (Aft G jX10_marks 1 [some (.ref 0), some (.int v1)] [] Q)) : Vw G jX10_marks 0 [some (.ref 0), some (.int v1)] [] h Q :=
  s_iload_n dX10_marks_0 rfl (s_callS (As := [.int v1]) dX10_marks_1 rfl lsX10_163 ⟨Nat.le_of_ble_eq_true rfl, Nat.le_of_ble_eq_true rfl⟩ rfl (Nat.le_of_ble_eq_true rfl) (K))
theorem bX10_marks_4 {G : GX} {h : mH} {Q : mO → mH → Prop} {v1 : Int32} {rA7 : Nat} (hi : Iv h) (hA7 : gR h 0 7 = .ref rA7) (kA7 : kd rA7 = (7, 7)) (K : WM G jX6_play [.ref 55, .ref rA7, .ref 3, .int (gI h 0 16)] h (Aft G jX10_marks 20 [some (.ref 0), some (.int v1)] [] Q)) : Vw G jX10_marks 4 [some (.ref 0), some (.int v1)] [] h Q :=
  s_aload_n dX10_marks_4 rfl (s_getR (v := .ref 55) dX10_marks_5 flX10_56 rfl (hi.sh rfl rfl) (hi.rf (o := 0) (k := 9) (d := 55) rfl rfl) (s_aload_n dX10_marks_8 rfl (s_getR (v := .ref rA7) dX10_marks_9 flX10_46 rfl (hi.sh rfl rfl) hA7 (s_aload_n dX10_marks_12 rfl (s_getR (v := .ref 3) dX10_marks_13 flX10_19 rfl (hi.sh rfl rfl) (hi.rf (o := 0) (k := 1) (d := 3) rfl rfl) (s_aload_n dX10_marks_16 rfl (s_getI dX10_marks_17 flX10_95 (Or.inl rfl) (hi.sh rfl rfl) (s_callV (As := [.ref rA7, .ref 3, .int (gI h 0 16)]) dX10_marks_20 rfl lvX10_144 ⟨Nat.le_of_ble_eq_true rfl, Nat.le_of_ble_eq_true rfl⟩ (hi.sh rfl rfl) ⟨_, _, by decide, rfl⟩ rfl (Nat.le_of_ble_eq_true rfl) (K)))))))))
theorem bX10_marks_23 {G : GX} {h : mH} {Q : mO → mH → Prop} {v1 : Int32} (hi : Iv h) (K : ((gI h 55 5) = 0 → (vp_in v1 729 ∧ Q (.inl (some (.int (gI h 66 (Int32.toNatClampNeg v1))))) h)) ∧ (¬ (gI h 55 5) = 0 → Q (.inl (some (.int (-2)))) h)) : Vw G jX10_marks 23 [some (.ref 0), some (.int v1)] [] h Q :=
  s_aload_n dX10_marks_23 rfl (s_getR (v := .ref 55) dX10_marks_24 flX10_56 rfl (hi.sh rfl rfl) (hi.rf (o := 0) (k := 9) (d := 55) rfl rfl) (s_getI dX10_marks_27 flX10_148 (Or.inr rfl) (hi.sh rfl rfl) (s_if_eq 38 dX10_marks_30 rfl (fun q3 => s_aload_n dX10_marks_38 rfl (s_getR (v := .ref 55) dX10_marks_39 flX10_56 rfl (hi.sh rfl rfl) (hi.rf (o := 0) (k := 9) (d := 55) rfl rfl) (s_getR (v := .ref 66) dX10_marks_42 flX10_166 rfl (hi.sh rfl rfl) (hi.rf (o := 55) (k := 1) (d := 11) rfl rfl) (s_iload_n dX10_marks_45 rfl (s_iaload dX10_marks_46 (hi.sh rfl rfl) (K.1 q3).1 (s_ireturn dX10_marks_47 rfl (K.1 q3).2)))))) (fun q3 => s_bipush (-2) dX10_marks_33 (by decide) (s_goto 47 dX10_marks_35 rfl (s_ireturn dX10_marks_47 rfl (K.2 q3)))))))
theorem eX10_marks {G : GX} {h : mH} {Q : mO → mH → Prop} {v1 : Int32} (hi : Iv h) (K : WM G jX10_needCell [.int v1] h (Aft G jX10_marks 1 [some (.ref 0), some (.int v1)] [] Q)) : WM G jX10_marks [.ref 0, .int v1] h Q :=
  WM.body (ls := [some (.ref 0), some (.int v1)]) rfl (by decide +kernel) rfl (Nat.le_of_ble_eq_true rfl) rfl ((bX10_marks_0 hi  K))
theorem dX10_count_0 : decode cX10_count 0 = .ok (.iload_n 1, 1) := by decide +kernel
theorem dX10_count_1 : decode cX10_count 1 = .ok (.bipush 10, 2) := by decide +kernel
theorem dX10_count_3 : decode cX10_count 3 = .ok (.invokestatic 140, 3) := by decide +kernel
theorem dX10_count_6 : decode cX10_count 6 = .ok (.iload_n 1, 1) := by decide +kernel
theorem dX10_count_7 : decode cX10_count 7 = .ok (.tableswitch 85 0 5 #[37, 45, 53, 61, 69, 77], 37) := by decide +kernel
theorem dX10_count_44 : decode cX10_count 44 = .ok (.aload_n 0, 1) := by decide +kernel
theorem dX10_count_45 : decode cX10_count 45 = .ok (.getfield 19, 3) := by decide +kernel
theorem dX10_count_48 : decode cX10_count 48 = .ok (.getfield 172, 3) := by decide +kernel
theorem dX10_count_51 : decode cX10_count 51 = .ok (.ireturn, 1) := by decide +kernel
theorem dX10_count_52 : decode cX10_count 52 = .ok (.aload_n 0, 1) := by decide +kernel
theorem dX10_count_53 : decode cX10_count 53 = .ok (.getfield 19, 3) := by decide +kernel
theorem dX10_count_56 : decode cX10_count 56 = .ok (.getfield 175, 3) := by decide +kernel
theorem dX10_count_59 : decode cX10_count 59 = .ok (.ireturn, 1) := by decide +kernel
theorem dX10_count_60 : decode cX10_count 60 = .ok (.aload_n 0, 1) := by decide +kernel
theorem dX10_count_61 : decode cX10_count 61 = .ok (.getfield 32, 3) := by decide +kernel
theorem dX10_count_64 : decode cX10_count 64 = .ok (.getfield 178, 3) := by decide +kernel
theorem dX10_count_67 : decode cX10_count 67 = .ok (.ireturn, 1) := by decide +kernel
theorem dX10_count_68 : decode cX10_count 68 = .ok (.aload_n 0, 1) := by decide +kernel
theorem dX10_count_69 : decode cX10_count 69 = .ok (.getfield 32, 3) := by decide +kernel
theorem dX10_count_72 : decode cX10_count 72 = .ok (.getfield 181, 3) := by decide +kernel
theorem dX10_count_75 : decode cX10_count 75 = .ok (.ireturn, 1) := by decide +kernel
theorem dX10_count_76 : decode cX10_count 76 = .ok (.aload_n 0, 1) := by decide +kernel
theorem dX10_count_77 : decode cX10_count 77 = .ok (.getfield 32, 3) := by decide +kernel
theorem dX10_count_80 : decode cX10_count 80 = .ok (.getfield 184, 3) := by decide +kernel
theorem dX10_count_83 : decode cX10_count 83 = .ok (.ireturn, 1) := by decide +kernel
theorem dX10_count_84 : decode cX10_count 84 = .ok (.aload_n 0, 1) := by decide +kernel
theorem dX10_count_85 : decode cX10_count 85 = .ok (.getfield 12, 3) := by decide +kernel
theorem dX10_count_88 : decode cX10_count 88 = .ok (.getfield 107, 3) := by decide +kernel
theorem dX10_count_91 : decode cX10_count 91 = .ok (.ireturn, 1) := by decide +kernel
theorem dX10_count_92 : decode cX10_count 92 = .ok (.aload_n 0, 1) := by decide +kernel
theorem dX10_count_93 : decode cX10_count 93 = .ok (.getfield 92, 3) := by decide +kernel
theorem dX10_count_96 : decode cX10_count 96 = .ok (.iload_n 1, 1) := by decide +kernel
theorem dX10_count_97 : decode cX10_count 97 = .ok (.bipush 6, 2) := by decide +kernel
theorem dX10_count_99 : decode cX10_count 99 = .ok (.isub, 1) := by decide +kernel
theorem dX10_count_100 : decode cX10_count 100 = .ok (.iaload, 1) := by decide +kernel
theorem dX10_count_101 : decode cX10_count 101 = .ok (.ireturn, 1) := by decide +kernel
theorem bX10_count_0 {G : GX} {h : mH} {Q : mO → mH → Prop} {v1 : Int32} (hi : Iv h) (K : WM G jX10_needWhat [.int v1, .int 10] h (Aft G jX10_count 3 [some (.ref 0), some (.int v1)] [] Q)) : Vw G jX10_count 0 [some (.ref 0), some (.int v1)] [] h Q :=
  s_iload_n dX10_count_0 rfl (s_bipush 10 dX10_count_1 (by decide) (s_callS (As := [.int v1, .int 10]) dX10_count_3 rfl lsX10_140 ⟨Nat.le_of_ble_eq_true rfl, Nat.le_of_ble_eq_true rfl⟩ rfl (Nat.le_of_ble_eq_true rfl) (K)))
theorem bX10_count_6 {G : GX} {h : mH} {Q : mO → mH → Prop} {v1 : Int32} (hi : Iv h) (K : (v1 = 0 → Q (.inl (some (.int (gI h 3 4)))) h) ∧ (v1 = 1 → Q (.inl (some (.int (gI h 3 5)))) h) ∧ (v1 = 2 → Q (.inl (some (.int (gI h 33 1)))) h) ∧ (v1 = 3 → Q (.inl (some (.int (gI h 33 3)))) h) ∧ (v1 = 4 → Q (.inl (some (.int (gI h 33 5)))) h) ∧ (v1 = 5 → Q (.inl (some (.int (gI h 1 1)))) h) ∧ (¬ v1 = 0 → ¬ v1 = 1 → ¬ v1 = 2 → ¬ v1 = 3 → ¬ v1 = 4 → ¬ v1 = 5 → (vp_in (v1 - 6) 5 ∧ Q (.inl (some (.int (gI h 82 (Int32.toNatClampNeg (v1 - 6)))))) h))) : Vw G jX10_count 6 [some (.ref 0), some (.int v1)] [] h Q :=
  s_iload_n dX10_count_6 rfl (Decidable.byCases (fun e1_0 => s_tableIn 44 dX10_count_7 (by rw [e1_0] <;> decide) (by rw [e1_0] <;> decide) (by rw [e1_0] <;> rfl) rfl (s_aload_n dX10_count_44 rfl (s_getR (v := .ref 3) dX10_count_45 flX10_19 rfl (hi.sh rfl rfl) (hi.rf (o := 0) (k := 1) (d := 3) rfl rfl) (s_getI dX10_count_48 flX10_172 (Or.inl rfl) (hi.sh rfl rfl) (s_ireturn dX10_count_51 rfl (K.1 e1_0)))))) (fun e1_0 => Decidable.byCases (fun e1_1 => s_tableIn 52 dX10_count_7 (by rw [e1_1] <;> decide) (by rw [e1_1] <;> decide) (by rw [e1_1] <;> rfl) rfl (s_aload_n dX10_count_52 rfl (s_getR (v := .ref 3) dX10_count_53 flX10_19 rfl (hi.sh rfl rfl) (hi.rf (o := 0) (k := 1) (d := 3) rfl rfl) (s_getI dX10_count_56 flX10_175 (Or.inl rfl) (hi.sh rfl rfl) (s_ireturn dX10_count_59 rfl (K.2.1 e1_1)))))) (fun e1_1 => Decidable.byCases (fun e1_2 => s_tableIn 60 dX10_count_7 (by rw [e1_2] <;> decide) (by rw [e1_2] <;> decide) (by rw [e1_2] <;> rfl) rfl (s_aload_n dX10_count_60 rfl (s_getR (v := .ref 33) dX10_count_61 flX10_32 rfl (hi.sh rfl rfl) (hi.rf (o := 0) (k := 4) (d := 33) rfl rfl) (s_getI dX10_count_64 flX10_178 (Or.inl rfl) (hi.sh rfl rfl) (s_ireturn dX10_count_67 rfl (K.2.2.1 e1_2)))))) (fun e1_2 => Decidable.byCases (fun e1_3 => s_tableIn 68 dX10_count_7 (by rw [e1_3] <;> decide) (by rw [e1_3] <;> decide) (by rw [e1_3] <;> rfl) rfl (s_aload_n dX10_count_68 rfl (s_getR (v := .ref 33) dX10_count_69 flX10_32 rfl (hi.sh rfl rfl) (hi.rf (o := 0) (k := 4) (d := 33) rfl rfl) (s_getI dX10_count_72 flX10_181 (Or.inl rfl) (hi.sh rfl rfl) (s_ireturn dX10_count_75 rfl (K.2.2.2.1 e1_3)))))) (fun e1_3 => Decidable.byCases (fun e1_4 => s_tableIn 76 dX10_count_7 (by rw [e1_4] <;> decide) (by rw [e1_4] <;> decide) (by rw [e1_4] <;> rfl) rfl (s_aload_n dX10_count_76 rfl (s_getR (v := .ref 33) dX10_count_77 flX10_32 rfl (hi.sh rfl rfl) (hi.rf (o := 0) (k := 4) (d := 33) rfl rfl) (s_getI dX10_count_80 flX10_184 (Or.inl rfl) (hi.sh rfl rfl) (s_ireturn dX10_count_83 rfl (K.2.2.2.2.1 e1_4)))))) (fun e1_4 => Decidable.byCases (fun e1_5 => s_tableIn 84 dX10_count_7 (by rw [e1_5] <;> decide) (by rw [e1_5] <;> decide) (by rw [e1_5] <;> rfl) rfl (s_aload_n dX10_count_84 rfl (s_getR (v := .ref 1) dX10_count_85 flX10_12 rfl (hi.sh rfl rfl) (hi.rf (o := 0) (k := 0) (d := 1) rfl rfl) (s_getI dX10_count_88 flX10_107 (Or.inl rfl) (hi.sh rfl rfl) (s_ireturn dX10_count_91 rfl (K.2.2.2.2.2.1 e1_5)))))) (fun e1_5 => s_tableOut 92 dX10_count_7 (sw_out [0, 1, 2, 3, 4, 5] (by simp only [List.forall_mem_cons]; exact ⟨e1_0, e1_1, e1_2, e1_3, e1_4, e1_5, fun _ hh => nomatch hh⟩) (fun k z1 z2 => by rcases (show k = 0 ∨ k = 1 ∨ k = 2 ∨ k = 3 ∨ k = 4 ∨ k = 5 by omega) with rfl | rfl | rfl | rfl | rfl | rfl <;> decide)) rfl (s_aload_n dX10_count_92 rfl (s_getR (v := .ref 82) dX10_count_93 flX10_92 rfl (hi.sh rfl rfl) (hi.rf (o := 0) (k := 15) (d := 82) rfl rfl) (s_iload_n dX10_count_96 rfl (s_bipush 6 dX10_count_97 (by decide) (s_isub dX10_count_99 (s_iaload dX10_count_100 (hi.sh rfl rfl) (K.2.2.2.2.2.2 e1_0 e1_1 e1_2 e1_3 e1_4 e1_5).1 (s_ireturn dX10_count_101 rfl (K.2.2.2.2.2.2 e1_0 e1_1 e1_2 e1_3 e1_4 e1_5).2))))))))))))))
theorem eX10_count {G : GX} {h : mH} {Q : mO → mH → Prop} {v1 : Int32} (hi : Iv h) (K : WM G jX10_needWhat [.int v1, .int 10] h (Aft G jX10_count 3 [some (.ref 0), some (.int v1)] [] Q)) : WM G jX10_count [.ref 0, .int v1] h Q :=
  WM.body (ls := [some (.ref 0), some (.int v1)]) rfl (by decide +kernel) rfl (Nat.le_of_ble_eq_true rfl) rfl ((bX10_count_0 hi  K))
theorem dX10_needPendulum_0 : decode cX10_needPendulum 0 = .ok (.iload_n 0, 1) := by decide +kernel
theorem dX10_needPendulum_1 : decode cX10_needPendulum 1 = .ok (.ifCond .lt 8, 3) := by decide +kernel
theorem dX10_needPendulum_4 : decode cX10_needPendulum 4 = .ok (.iload_n 0, 1) := by decide +kernel
theorem dX10_needPendulum_5 : decode cX10_needPendulum 5 = .ok (.iconst 4, 1) := by decide +kernel
theorem dX10_needPendulum_6 : decode cX10_needPendulum 6 = .ok (.if_icmp .lt 14, 3) := by decide +kernel
theorem dX10_needPendulum_9 : decode cX10_needPendulum 9 = .ok (.new 342, 3) := by decide +kernel
theorem dX10_needPendulum_12 : decode cX10_needPendulum 12 = .ok (.dup, 1) := by decide +kernel
theorem dX10_needPendulum_13 : decode cX10_needPendulum 13 = .ok (.ldc_w 379, 3) := by decide +kernel
theorem dX10_needPendulum_16 : decode cX10_needPendulum 16 = .ok (.invokespecial 346, 3) := by decide +kernel
theorem dX10_needPendulum_19 : decode cX10_needPendulum 19 = .ok (.athrow, 1) := by decide +kernel
theorem dX10_needPendulum_20 : decode cX10_needPendulum 20 = .ok (.return_, 1) := by decide +kernel
theorem bX10_needPendulum_0 {G : GX} {h : mH} {Q : mO → mH → Prop} {v0 : Int32} (hi : Iv h) (K : (v0 < 0 → Vw G jX10_needPendulum 9 [none] [] h Q) ∧ (¬ v0 < 0 → ((v0 < 4 → Q (.inl none) h) ∧ (¬ v0 < 4 → Vw G jX10_needPendulum 9 [none] [] h Q)))) : Vw G jX10_needPendulum 0 [some (.int v0)] [] h Q :=
  s_iload_n dX10_needPendulum_0 rfl (s_if_lt 9 dX10_needPendulum_1 rfl (fun q1 => Vw.mask [false] ((K.1 q1))) (fun q1 => s_iload_n dX10_needPendulum_4 rfl (s_iconst 4 dX10_needPendulum_5 (by decide) (s_icmp_lt 20 dX10_needPendulum_6 rfl (fun q4 => s_return dX10_needPendulum_20 rfl ((K.2 q1).1 q4)) (fun q4 => Vw.mask [false] (((K.2 q1).2 q4)))))))
theorem bX10_needPendulum_9 {G : GX} {h : mH} {Q : mO → mH → Prop} (hi : Iv h) (K : (h.1.length + 1 ≤ NC ∧ sl h + 6 ≤ NS) ∧ Q (.inr "java/util/NoSuchElementException") h ∧ ∀ n, n ≤ 6 → Q (.inr "java/util/NoSuchElementException") (aN h 200 n)) : Vw G jX10_needPendulum 9 [none] [] h Q :=
  s_throw dX10_needPendulum_9 dX10_needPendulum_12 dX10_needPendulum_13 dX10_needPendulum_16 dX10_needPendulum_19 rfl ktX10_379 (Nat.le_of_ble_eq_true rfl) (Nat.le_of_ble_eq_true rfl) K.1.1 K.1.2 K.2.1 K.2.2
theorem eX10_needPendulum {G : GX} {h : mH} {Q : mO → mH → Prop} {v0 : Int32} (hi : Iv h) (K : (v0 < 0 → Vw G jX10_needPendulum 9 [none] [] h Q) ∧ (¬ v0 < 0 → ((v0 < 4 → Q (.inl none) h) ∧ (¬ v0 < 4 → Vw G jX10_needPendulum 9 [none] [] h Q)))) : WM G jX10_needPendulum [.int v0] h Q :=
  WM.body (ls := [some (.int v0)]) rfl (by decide +kernel) rfl (Nat.le_of_ble_eq_true rfl) rfl ((bX10_needPendulum_0 hi  K))
theorem dX10_pendulum_0 : decode cX10_pendulum 0 = .ok (.iload_n 1, 1) := by decide +kernel
theorem dX10_pendulum_1 : decode cX10_pendulum 1 = .ok (.invokestatic 187, 3) := by decide +kernel
theorem dX10_pendulum_4 : decode cX10_pendulum 4 = .ok (.iload_n 2, 1) := by decide +kernel
theorem dX10_pendulum_5 : decode cX10_pendulum 5 = .ok (.bipush 6, 2) := by decide +kernel
theorem dX10_pendulum_7 : decode cX10_pendulum 7 = .ok (.invokestatic 140, 3) := by decide +kernel
theorem dX10_pendulum_10 : decode cX10_pendulum 10 = .ok (.iload_n 2, 1) := by decide +kernel
theorem dX10_pendulum_11 : decode cX10_pendulum 11 = .ok (.tableswitch 102 0 5 #[37, 47, 57, 70, 82, 92], 37) := by decide +kernel
theorem dX10_pendulum_48 : decode cX10_pendulum 48 = .ok (.aload_n 0, 1) := by decide +kernel
theorem dX10_pendulum_49 : decode cX10_pendulum 49 = .ok (.getfield 19, 3) := by decide +kernel
theorem dX10_pendulum_52 : decode cX10_pendulum 52 = .ok (.getfield 190, 3) := by decide +kernel
theorem dX10_pendulum_55 : decode cX10_pendulum 55 = .ok (.iload_n 1, 1) := by decide +kernel
theorem dX10_pendulum_56 : decode cX10_pendulum 56 = .ok (.iaload, 1) := by decide +kernel
theorem dX10_pendulum_57 : decode cX10_pendulum 57 = .ok (.ireturn, 1) := by decide +kernel
theorem dX10_pendulum_58 : decode cX10_pendulum 58 = .ok (.aload_n 0, 1) := by decide +kernel
theorem dX10_pendulum_59 : decode cX10_pendulum 59 = .ok (.getfield 19, 3) := by decide +kernel
theorem dX10_pendulum_62 : decode cX10_pendulum 62 = .ok (.getfield 193, 3) := by decide +kernel
theorem dX10_pendulum_65 : decode cX10_pendulum 65 = .ok (.iload_n 1, 1) := by decide +kernel
theorem dX10_pendulum_66 : decode cX10_pendulum 66 = .ok (.iaload, 1) := by decide +kernel
theorem dX10_pendulum_67 : decode cX10_pendulum 67 = .ok (.ireturn, 1) := by decide +kernel
theorem dX10_pendulum_68 : decode cX10_pendulum 68 = .ok (.aload_n 0, 1) := by decide +kernel
theorem dX10_pendulum_69 : decode cX10_pendulum 69 = .ok (.getfield 19, 3) := by decide +kernel
theorem dX10_pendulum_72 : decode cX10_pendulum 72 = .ok (.getfield 196, 3) := by decide +kernel
theorem dX10_pendulum_75 : decode cX10_pendulum 75 = .ok (.bipush 8, 2) := by decide +kernel
theorem dX10_pendulum_77 : decode cX10_pendulum 77 = .ok (.iload_n 1, 1) := by decide +kernel
theorem dX10_pendulum_78 : decode cX10_pendulum 78 = .ok (.iadd, 1) := by decide +kernel
theorem dX10_pendulum_79 : decode cX10_pendulum 79 = .ok (.iaload, 1) := by decide +kernel
theorem dX10_pendulum_80 : decode cX10_pendulum 80 = .ok (.ireturn, 1) := by decide +kernel
theorem dX10_pendulum_81 : decode cX10_pendulum 81 = .ok (.aload_n 0, 1) := by decide +kernel
theorem dX10_pendulum_82 : decode cX10_pendulum 82 = .ok (.getfield 19, 3) := by decide +kernel
theorem dX10_pendulum_85 : decode cX10_pendulum 85 = .ok (.getfield 196, 3) := by decide +kernel
theorem dX10_pendulum_88 : decode cX10_pendulum 88 = .ok (.iconst 4, 1) := by decide +kernel
theorem dX10_pendulum_89 : decode cX10_pendulum 89 = .ok (.iload_n 1, 1) := by decide +kernel
theorem dX10_pendulum_90 : decode cX10_pendulum 90 = .ok (.iadd, 1) := by decide +kernel
theorem dX10_pendulum_91 : decode cX10_pendulum 91 = .ok (.iaload, 1) := by decide +kernel
theorem dX10_pendulum_92 : decode cX10_pendulum 92 = .ok (.ireturn, 1) := by decide +kernel
theorem dX10_pendulum_93 : decode cX10_pendulum 93 = .ok (.aload_n 0, 1) := by decide +kernel
theorem dX10_pendulum_94 : decode cX10_pendulum 94 = .ok (.getfield 19, 3) := by decide +kernel
theorem dX10_pendulum_97 : decode cX10_pendulum 97 = .ok (.getfield 199, 3) := by decide +kernel
theorem dX10_pendulum_100 : decode cX10_pendulum 100 = .ok (.iload_n 1, 1) := by decide +kernel
theorem dX10_pendulum_101 : decode cX10_pendulum 101 = .ok (.iaload, 1) := by decide +kernel
theorem dX10_pendulum_102 : decode cX10_pendulum 102 = .ok (.ireturn, 1) := by decide +kernel
theorem dX10_pendulum_103 : decode cX10_pendulum 103 = .ok (.aload_n 0, 1) := by decide +kernel
theorem dX10_pendulum_104 : decode cX10_pendulum 104 = .ok (.getfield 19, 3) := by decide +kernel
theorem dX10_pendulum_107 : decode cX10_pendulum 107 = .ok (.getfield 196, 3) := by decide +kernel
theorem dX10_pendulum_110 : decode cX10_pendulum 110 = .ok (.iload_n 1, 1) := by decide +kernel
theorem dX10_pendulum_111 : decode cX10_pendulum 111 = .ok (.iaload, 1) := by decide +kernel
theorem dX10_pendulum_112 : decode cX10_pendulum 112 = .ok (.ireturn, 1) := by decide +kernel
theorem dX10_pendulum_113 : decode cX10_pendulum 113 = .ok (.aload_n 0, 1) := by decide +kernel
theorem dX10_pendulum_114 : decode cX10_pendulum 114 = .ok (.getfield 19, 3) := by decide +kernel
theorem dX10_pendulum_117 : decode cX10_pendulum 117 = .ok (.iload_n 1, 1) := by decide +kernel
theorem dX10_pendulum_118 : decode cX10_pendulum 118 = .ok (.invokevirtual 202, 3) := by decide +kernel
theorem dX10_pendulum_121 : decode cX10_pendulum 121 = .ok (.ireturn, 1) := by decide +kernel
theorem bX10_pendulum_0 {G : GX} {h : mH} {Q : mO → mH → Prop} {v1 : Int32} {v2 : Int32} (hi : Iv h) (K : WM G jX10_needPendulum [.int v1] h (Aft G jX10_pendulum 1 [some (.ref 0), some (.int v1), some (.int v2)] [] Q)) : Vw G jX10_pendulum 0 [some (.ref 0), some (.int v1), some (.int v2)] [] h Q :=
  s_iload_n dX10_pendulum_0 rfl (s_callS (As := [.int v1]) dX10_pendulum_1 rfl lsX10_187 ⟨Nat.le_of_ble_eq_true rfl, Nat.le_of_ble_eq_true rfl⟩ rfl (Nat.le_of_ble_eq_true rfl) (K))
theorem bX10_pendulum_4 {G : GX} {h : mH} {Q : mO → mH → Prop} {v1 : Int32} {v2 : Int32} (hi : Iv h) (K : WM G jX10_needWhat [.int v2, .int 6] h (Aft G jX10_pendulum 7 [some (.ref 0), some (.int v1), some (.int v2)] [] Q)) : Vw G jX10_pendulum 4 [some (.ref 0), some (.int v1), some (.int v2)] [] h Q :=
  s_iload_n dX10_pendulum_4 rfl (s_bipush 6 dX10_pendulum_5 (by decide) (s_callS (As := [.int v2, .int 6]) dX10_pendulum_7 rfl lsX10_140 ⟨Nat.le_of_ble_eq_true rfl, Nat.le_of_ble_eq_true rfl⟩ rfl (Nat.le_of_ble_eq_true rfl) (K)))
theorem bX10_pendulum_10 {G : GX} {h : mH} {Q : mO → mH → Prop} {v1 : Int32} {v2 : Int32} (hi : Iv h) (K : (v2 = 0 → (vp_in v1 4 ∧ Q (.inl (some (.int (gI h 4 (Int32.toNatClampNeg v1))))) h)) ∧ (v2 = 1 → (vp_in v1 4 ∧ Q (.inl (some (.int (gI h 5 (Int32.toNatClampNeg v1))))) h)) ∧ (v2 = 2 → (vp_in (8 + v1) 12 ∧ Q (.inl (some (.int (gI h 7 (Int32.toNatClampNeg (8 + v1)))))) h)) ∧ (v2 = 3 → (vp_in (4 + v1) 12 ∧ Q (.inl (some (.int (gI h 7 (Int32.toNatClampNeg (4 + v1)))))) h)) ∧ (v2 = 4 → (vp_in v1 4 ∧ Q (.inl (some (.int (gI h 6 (Int32.toNatClampNeg v1))))) h)) ∧ (v2 = 5 → (vp_in v1 12 ∧ Q (.inl (some (.int (gI h 7 (Int32.toNatClampNeg v1))))) h)) ∧ (¬ v2 = 0 → ¬ v2 = 1 → ¬ v2 = 2 → ¬ v2 = 3 → ¬ v2 = 4 → ¬ v2 = 5 → WM G jX2_period [.ref 3, .int v1] h (Aft G jX10_pendulum 118 [none, none, none] [] Q))) : Vw G jX10_pendulum 10 [some (.ref 0), some (.int v1), some (.int v2)] [] h Q :=
  s_iload_n dX10_pendulum_10 rfl (Decidable.byCases (fun e1_0 => s_tableIn 48 dX10_pendulum_11 (by rw [e1_0] <;> decide) (by rw [e1_0] <;> decide) (by rw [e1_0] <;> rfl) rfl (s_aload_n dX10_pendulum_48 rfl (s_getR (v := .ref 3) dX10_pendulum_49 flX10_19 rfl (hi.sh rfl rfl) (hi.rf (o := 0) (k := 1) (d := 3) rfl rfl) (s_getR (v := .ref 4) dX10_pendulum_52 flX10_190 rfl (hi.sh rfl rfl) (hi.rf (o := 3) (k := 0) (d := 1) rfl rfl) (s_iload_n dX10_pendulum_55 rfl (s_iaload dX10_pendulum_56 (hi.sh rfl rfl) (K.1 e1_0).1 (s_ireturn dX10_pendulum_57 rfl (K.1 e1_0).2))))))) (fun e1_0 => Decidable.byCases (fun e1_1 => s_tableIn 58 dX10_pendulum_11 (by rw [e1_1] <;> decide) (by rw [e1_1] <;> decide) (by rw [e1_1] <;> rfl) rfl (s_aload_n dX10_pendulum_58 rfl (s_getR (v := .ref 3) dX10_pendulum_59 flX10_19 rfl (hi.sh rfl rfl) (hi.rf (o := 0) (k := 1) (d := 3) rfl rfl) (s_getR (v := .ref 5) dX10_pendulum_62 flX10_193 rfl (hi.sh rfl rfl) (hi.rf (o := 3) (k := 1) (d := 2) rfl rfl) (s_iload_n dX10_pendulum_65 rfl (s_iaload dX10_pendulum_66 (hi.sh rfl rfl) (K.2.1 e1_1).1 (s_ireturn dX10_pendulum_67 rfl (K.2.1 e1_1).2))))))) (fun e1_1 => Decidable.byCases (fun e1_2 => s_tableIn 68 dX10_pendulum_11 (by rw [e1_2] <;> decide) (by rw [e1_2] <;> decide) (by rw [e1_2] <;> rfl) rfl (s_aload_n dX10_pendulum_68 rfl (s_getR (v := .ref 3) dX10_pendulum_69 flX10_19 rfl (hi.sh rfl rfl) (hi.rf (o := 0) (k := 1) (d := 3) rfl rfl) (s_getR (v := .ref 7) dX10_pendulum_72 flX10_196 rfl (hi.sh rfl rfl) (hi.rf (o := 3) (k := 3) (d := 4) rfl rfl) (s_bipush 8 dX10_pendulum_75 (by decide) (s_iload_n dX10_pendulum_77 rfl (s_iadd dX10_pendulum_78 (s_iaload dX10_pendulum_79 (hi.sh rfl rfl) (K.2.2.1 e1_2).1 (s_ireturn dX10_pendulum_80 rfl (K.2.2.1 e1_2).2))))))))) (fun e1_2 => Decidable.byCases (fun e1_3 => s_tableIn 81 dX10_pendulum_11 (by rw [e1_3] <;> decide) (by rw [e1_3] <;> decide) (by rw [e1_3] <;> rfl) rfl (s_aload_n dX10_pendulum_81 rfl (s_getR (v := .ref 3) dX10_pendulum_82 flX10_19 rfl (hi.sh rfl rfl) (hi.rf (o := 0) (k := 1) (d := 3) rfl rfl) (s_getR (v := .ref 7) dX10_pendulum_85 flX10_196 rfl (hi.sh rfl rfl) (hi.rf (o := 3) (k := 3) (d := 4) rfl rfl) (s_iconst 4 dX10_pendulum_88 (by decide) (s_iload_n dX10_pendulum_89 rfl (s_iadd dX10_pendulum_90 (s_iaload dX10_pendulum_91 (hi.sh rfl rfl) (K.2.2.2.1 e1_3).1 (s_ireturn dX10_pendulum_92 rfl (K.2.2.2.1 e1_3).2))))))))) (fun e1_3 => Decidable.byCases (fun e1_4 => s_tableIn 93 dX10_pendulum_11 (by rw [e1_4] <;> decide) (by rw [e1_4] <;> decide) (by rw [e1_4] <;> rfl) rfl (s_aload_n dX10_pendulum_93 rfl (s_getR (v := .ref 3) dX10_pendulum_94 flX10_19 rfl (hi.sh rfl rfl) (hi.rf (o := 0) (k := 1) (d := 3) rfl rfl) (s_getR (v := .ref 6) dX10_pendulum_97 flX10_199 rfl (hi.sh rfl rfl) (hi.rf (o := 3) (k := 2) (d := 3) rfl rfl) (s_iload_n dX10_pendulum_100 rfl (s_iaload dX10_pendulum_101 (hi.sh rfl rfl) (K.2.2.2.2.1 e1_4).1 (s_ireturn dX10_pendulum_102 rfl (K.2.2.2.2.1 e1_4).2))))))) (fun e1_4 => Decidable.byCases (fun e1_5 => s_tableIn 103 dX10_pendulum_11 (by rw [e1_5] <;> decide) (by rw [e1_5] <;> decide) (by rw [e1_5] <;> rfl) rfl (s_aload_n dX10_pendulum_103 rfl (s_getR (v := .ref 3) dX10_pendulum_104 flX10_19 rfl (hi.sh rfl rfl) (hi.rf (o := 0) (k := 1) (d := 3) rfl rfl) (s_getR (v := .ref 7) dX10_pendulum_107 flX10_196 rfl (hi.sh rfl rfl) (hi.rf (o := 3) (k := 3) (d := 4) rfl rfl) (s_iload_n dX10_pendulum_110 rfl (s_iaload dX10_pendulum_111 (hi.sh rfl rfl) (K.2.2.2.2.2.1 e1_5).1 (s_ireturn dX10_pendulum_112 rfl (K.2.2.2.2.2.1 e1_5).2))))))) (fun e1_5 => s_tableOut 113 dX10_pendulum_11 (sw_out [0, 1, 2, 3, 4, 5] (by simp only [List.forall_mem_cons]; exact ⟨e1_0, e1_1, e1_2, e1_3, e1_4, e1_5, fun _ hh => nomatch hh⟩) (fun k z1 z2 => by rcases (show k = 0 ∨ k = 1 ∨ k = 2 ∨ k = 3 ∨ k = 4 ∨ k = 5 by omega) with rfl | rfl | rfl | rfl | rfl | rfl <;> decide)) rfl (s_aload_n dX10_pendulum_113 rfl (s_getR (v := .ref 3) dX10_pendulum_114 flX10_19 rfl (hi.sh rfl rfl) (hi.rf (o := 0) (k := 1) (d := 3) rfl rfl) (s_iload_n dX10_pendulum_117 rfl (Vw.mask [false, false, false] (s_callV (As := [.int v1]) dX10_pendulum_118 rfl lvX10_202 ⟨Nat.le_of_ble_eq_true rfl, Nat.le_of_ble_eq_true rfl⟩ (hi.sh rfl rfl) ⟨_, _, by decide, rfl⟩ rfl (Nat.le_of_ble_eq_true rfl) ((K.2.2.2.2.2.2 e1_0 e1_1 e1_2 e1_3 e1_4 e1_5))))))))))))))
theorem bX10_pendulum_121 {G : GX} {h : mH} {Q : mO → mH → Prop} {vs0 : Int32} (hi : Iv h) (K : Q (.inl (some (.int vs0))) h) : Vw G jX10_pendulum 121 [none, none, none] [.int vs0] h Q :=
  s_ireturn dX10_pendulum_121 rfl K
theorem eX10_pendulum {G : GX} {h : mH} {Q : mO → mH → Prop} {v1 : Int32} {v2 : Int32} (hi : Iv h) (K : WM G jX10_needPendulum [.int v1] h (Aft G jX10_pendulum 1 [some (.ref 0), some (.int v1), some (.int v2)] [] Q)) : WM G jX10_pendulum [.ref 0, .int v1, .int v2] h Q :=
  WM.body (ls := [some (.ref 0), some (.int v1), some (.int v2)]) rfl (by decide +kernel) rfl (Nat.le_of_ble_eq_true rfl) rfl ((bX10_pendulum_0 hi  K))
theorem dX10_refuse_0 : decode cX10_refuse 0 = .ok (.aload_n 0, 1) := by decide +kernel
theorem dX10_refuse_1 : decode cX10_refuse 1 = .ok (.getfield 92, 3) := by decide +kernel
theorem dX10_refuse_4 : decode cX10_refuse 4 = .ok (.iload_n 1, 1) := by decide +kernel
theorem dX10_refuse_5 : decode cX10_refuse 5 = .ok (.dup2, 1) := by decide +kernel
theorem dX10_refuse_6 : decode cX10_refuse 6 = .ok (.iaload, 1) := by decide +kernel
theorem dX10_refuse_7 : decode cX10_refuse 7 = .ok (.iconst 1, 1) := by decide +kernel
theorem dX10_refuse_8 : decode cX10_refuse 8 = .ok (.iadd, 1) := by decide +kernel
theorem dX10_refuse_9 : decode cX10_refuse 9 = .ok (.iastore, 1) := by decide +kernel
theorem dX10_refuse_10 : decode cX10_refuse 10 = .ok (.iconst (-1), 1) := by decide +kernel
theorem dX10_refuse_11 : decode cX10_refuse 11 = .ok (.ireturn, 1) := by decide +kernel
theorem bX10_refuse_0 {G : GX} {h : mH} {Q : mO → mH → Prop} {v1 : Int32} (hi : Iv h) (K : vp_in v1 5 ∧ (vp_in v1 5 ∧ Q (.inl (some (.int (-1)))) (pI h 82 (Int32.toNatClampNeg v1) ((gI h 82 (Int32.toNatClampNeg v1)) + 1)))) : Vw G jX10_refuse 0 [some (.ref 0), some (.int v1)] [] h Q :=
  s_aload_n dX10_refuse_0 rfl (s_getR (v := .ref 82) dX10_refuse_1 flX10_92 rfl (hi.sh rfl rfl) (hi.rf (o := 0) (k := 15) (d := 82) rfl rfl) (s_iload_n dX10_refuse_4 rfl (s_dup2ir dX10_refuse_5 (s_iaload dX10_refuse_6 (hi.sh rfl rfl) K.1 (s_iconst 1 dX10_refuse_7 (by decide) (s_iadd dX10_refuse_8 (s_iastore dX10_refuse_9 (hi.sh rfl rfl) K.2.1 (s_iconst (-1) dX10_refuse_10 (by decide) (s_ireturn dX10_refuse_11 rfl K.2.2)))))))))
theorem eX10_refuse {G : GX} {h : mH} {Q : mO → mH → Prop} {v1 : Int32} (hi : Iv h) (K : vp_in v1 5 ∧ (vp_in v1 5 ∧ Q (.inl (some (.int (-1)))) (pI h 82 (Int32.toNatClampNeg v1) ((gI h 82 (Int32.toNatClampNeg v1)) + 1)))) : WM G jX10_refuse [.ref 0, .int v1] h Q :=
  WM.body (ls := [some (.ref 0), some (.int v1)]) rfl (by decide +kernel) rfl (Nat.le_of_ble_eq_true rfl) rfl ((bX10_refuse_0 hi  K))
theorem dX10_set_0 : decode cX10_set 0 = .ok (.iload_n 1, 1) := by decide +kernel
theorem dX10_set_1 : decode cX10_set 1 = .ok (.invokestatic 187, 3) := by decide +kernel
theorem dX10_set_4 : decode cX10_set 4 = .ok (.iload_n 2, 1) := by decide +kernel
theorem dX10_set_5 : decode cX10_set 5 = .ok (.iconst 2, 1) := by decide +kernel
theorem dX10_set_6 : decode cX10_set 6 = .ok (.invokestatic 140, 3) := by decide +kernel
theorem dX10_set_9 : decode cX10_set 9 = .ok (.iload_n 3, 1) := by decide +kernel
theorem dX10_set_10 : decode cX10_set 10 = .ok (.ifCond .lt 11, 3) := by decide +kernel
theorem dX10_set_13 : decode cX10_set 13 = .ok (.iload_n 3, 1) := by decide +kernel
theorem dX10_set_14 : decode cX10_set 14 = .ok (.iload_n 2, 1) := by decide +kernel
theorem dX10_set_15 : decode cX10_set 15 = .ok (.invokestatic 206, 3) := by decide +kernel
theorem dX10_set_18 : decode cX10_set 18 = .ok (.if_icmp .le 9, 3) := by decide +kernel
theorem dX10_set_21 : decode cX10_set 21 = .ok (.aload_n 0, 1) := by decide +kernel
theorem dX10_set_22 : decode cX10_set 22 = .ok (.iconst 1, 1) := by decide +kernel
theorem dX10_set_23 : decode cX10_set 23 = .ok (.invokevirtual 209, 3) := by decide +kernel
theorem dX10_set_26 : decode cX10_set 26 = .ok (.ireturn, 1) := by decide +kernel
theorem dX10_set_27 : decode cX10_set 27 = .ok (.iconst 4, 1) := by decide +kernel
theorem dX10_set_28 : decode cX10_set 28 = .ok (.iload_n 2, 1) := by decide +kernel
theorem dX10_set_29 : decode cX10_set 29 = .ok (.imul, 1) := by decide +kernel
theorem dX10_set_30 : decode cX10_set 30 = .ok (.iload_n 1, 1) := by decide +kernel
theorem dX10_set_31 : decode cX10_set 31 = .ok (.iadd, 1) := by decide +kernel
theorem dX10_set_32 : decode cX10_set 32 = .ok (.istore 4, 2) := by decide +kernel
theorem dX10_set_34 : decode cX10_set 34 = .ok (.aload_n 0, 1) := by decide +kernel
theorem dX10_set_35 : decode cX10_set 35 = .ok (.getfield 19, 3) := by decide +kernel
theorem dX10_set_38 : decode cX10_set 38 = .ok (.getfield 196, 3) := by decide +kernel
theorem dX10_set_41 : decode cX10_set 41 = .ok (.iload 4, 2) := by decide +kernel
theorem dX10_set_43 : decode cX10_set 43 = .ok (.iaload, 1) := by decide +kernel
theorem dX10_set_44 : decode cX10_set 44 = .ok (.istore 5, 2) := by decide +kernel
theorem dX10_set_46 : decode cX10_set 46 = .ok (.aload_n 0, 1) := by decide +kernel
theorem dX10_set_47 : decode cX10_set 47 = .ok (.getfield 19, 3) := by decide +kernel
theorem dX10_set_50 : decode cX10_set 50 = .ok (.getfield 196, 3) := by decide +kernel
theorem dX10_set_53 : decode cX10_set 53 = .ok (.iload 4, 2) := by decide +kernel
theorem dX10_set_55 : decode cX10_set 55 = .ok (.iload_n 3, 1) := by decide +kernel
theorem dX10_set_56 : decode cX10_set 56 = .ok (.iastore, 1) := by decide +kernel
theorem dX10_set_57 : decode cX10_set 57 = .ok (.aload_n 0, 1) := by decide +kernel
theorem dX10_set_58 : decode cX10_set 58 = .ok (.dup, 1) := by decide +kernel
theorem dX10_set_59 : decode cX10_set 59 = .ok (.getfield 95, 3) := by decide +kernel
theorem dX10_set_62 : decode cX10_set 62 = .ok (.iconst 1, 1) := by decide +kernel
theorem dX10_set_63 : decode cX10_set 63 = .ok (.iadd, 1) := by decide +kernel
theorem dX10_set_64 : decode cX10_set 64 = .ok (.putfield 95, 3) := by decide +kernel
theorem dX10_set_67 : decode cX10_set 67 = .ok (.iload 5, 2) := by decide +kernel
theorem dX10_set_69 : decode cX10_set 69 = .ok (.ireturn, 1) := by decide +kernel
theorem bX10_set_0 {G : GX} {h : mH} {Q : mO → mH → Prop} {v1 : Int32} {v2 : Int32} {v3 : Int32} (hi : Iv h) (K : WM G jX10_needPendulum [.int v1] h (Aft G jX10_set 1 [some (.ref 0), some (.int v1), some (.int v2), some (.int v3), none, none] [] Q)) : Vw G jX10_set 0 [some (.ref 0), some (.int v1), some (.int v2), some (.int v3), none, none] [] h Q :=
  s_iload_n dX10_set_0 rfl (s_callS (As := [.int v1]) dX10_set_1 rfl lsX10_187 ⟨Nat.le_of_ble_eq_true rfl, Nat.le_of_ble_eq_true rfl⟩ rfl (Nat.le_of_ble_eq_true rfl) (K))
theorem bX10_set_4 {G : GX} {h : mH} {Q : mO → mH → Prop} {v1 : Int32} {v2 : Int32} {v3 : Int32} (hi : Iv h) (K : WM G jX10_needWhat [.int v2, .int 2] h (Aft G jX10_set 6 [some (.ref 0), some (.int v1), some (.int v2), some (.int v3), none, none] [] Q)) : Vw G jX10_set 4 [some (.ref 0), some (.int v1), some (.int v2), some (.int v3), none, none] [] h Q :=
  s_iload_n dX10_set_4 rfl (s_iconst 2 dX10_set_5 (by decide) (s_callS (As := [.int v2, .int 2]) dX10_set_6 rfl lsX10_140 ⟨Nat.le_of_ble_eq_true rfl, Nat.le_of_ble_eq_true rfl⟩ rfl (Nat.le_of_ble_eq_true rfl) (K)))
theorem bX10_set_9 {G : GX} {h : mH} {Q : mO → mH → Prop} {v1 : Int32} {v2 : Int32} {v3 : Int32} (hi : Iv h) (K : (v3 < 0 → Vw G jX10_set 21 [some (.ref 0), none, none, none, none, none] [] h Q) ∧ (¬ v3 < 0 → ((v3 ≤ (fX10_mostOfSetting v2) → (vp_in ((4 * v2) + v1) 12 ∧ (vp_in ((4 * v2) + v1) 12 ∧ Q (.inl (some (.int (gI h 7 (Int32.toNatClampNeg ((4 * v2) + v1)))))) (pI (pI h 7 (Int32.toNatClampNeg ((4 * v2) + v1)) v3) 0 16 ((gI (pI h 7 (Int32.toNatClampNeg ((4 * v2) + v1)) v3) 0 16) + 1))))) ∧ (¬ v3 ≤ (fX10_mostOfSetting v2) → Vw G jX10_set 21 [some (.ref 0), none, none, none, none, none] [] h Q)))) : Vw G jX10_set 9 [some (.ref 0), some (.int v1), some (.int v2), some (.int v3), none, none] [] h Q :=
  s_iload_n dX10_set_9 rfl (s_if_lt 21 dX10_set_10 rfl (fun q1 => Vw.mask [true, false, false, false, false, false] ((K.1 q1))) (fun q1 => s_iload_n dX10_set_13 rfl (s_iload_n dX10_set_14 rfl (s_callS (As := [.int v2]) dX10_set_15 rfl lsX10_206 ⟨Nat.le_of_ble_eq_true rfl, Nat.le_of_ble_eq_true rfl⟩ rfl (Nat.le_of_ble_eq_true rfl) (mX10_mostOfSetting   (s_icmp_le 27 dX10_set_18 rfl (fun q5 => s_iconst 4 dX10_set_27 (by decide) (s_iload_n dX10_set_28 rfl (s_imul dX10_set_29 (s_iload_n dX10_set_30 rfl (s_iadd dX10_set_31 (s_istore dX10_set_32 (Nat.le_of_ble_eq_true rfl) rfl (s_aload_n dX10_set_34 rfl (s_getR (v := .ref 3) dX10_set_35 flX10_19 rfl (hi.sh rfl rfl) (hi.rf (o := 0) (k := 1) (d := 3) rfl rfl) (s_getR (v := .ref 7) dX10_set_38 flX10_196 rfl (hi.sh rfl rfl) (hi.rf (o := 3) (k := 3) (d := 4) rfl rfl) (s_iload dX10_set_41 rfl (s_iaload dX10_set_43 (hi.sh rfl rfl) ((K.2 q1).1 q5).1 (s_istore dX10_set_44 (Nat.le_of_ble_eq_true rfl) rfl (s_aload_n dX10_set_46 rfl (s_getR (v := .ref 3) dX10_set_47 flX10_19 rfl (hi.sh rfl rfl) (hi.rf (o := 0) (k := 1) (d := 3) rfl rfl) (s_getR (v := .ref 7) dX10_set_50 flX10_196 rfl (hi.sh rfl rfl) (hi.rf (o := 3) (k := 3) (d := 4) rfl rfl) (s_iload dX10_set_53 rfl (s_iload_n dX10_set_55 rfl (s_iastore dX10_set_56 (hi.sh rfl rfl) ((K.2 q1).1 q5).2.1 (s_aload_n dX10_set_57 rfl (s_dupr dX10_set_58 (s_getI dX10_set_59 flX10_95 (Or.inl rfl) (hi.sh rfl rfl) (s_iconst 1 dX10_set_62 (by decide) (s_iadd dX10_set_63 (s_putI dX10_set_64 flX10_95 ff9_16 rfl (hi.sh rfl rfl) (s_iload dX10_set_67 rfl (s_ireturn dX10_set_69 rfl ((K.2 q1).1 q5).2.2)))))))))))))))))))))))))) (fun q5 => Vw.mask [true, false, false, false, false, false] (((K.2 q1).2 q5)))))))))
theorem bX10_set_21 {G : GX} {h : mH} {Q : mO → mH → Prop} (hi : Iv h) (K : WM G jX10_refuse [.ref 0, .int 1] h (Aft G jX10_set 23 [none, none, none, none, none, none] [] Q)) : Vw G jX10_set 21 [some (.ref 0), none, none, none, none, none] [] h Q :=
  s_aload_n dX10_set_21 rfl (s_iconst 1 dX10_set_22 (by decide) (Vw.mask [false, false, false, false, false, false] (s_callV (As := [.int 1]) dX10_set_23 rfl lvX10_209 ⟨Nat.le_of_ble_eq_true rfl, Nat.le_of_ble_eq_true rfl⟩ (hi.sh rfl rfl) ⟨_, _, by decide, rfl⟩ rfl (Nat.le_of_ble_eq_true rfl) (K))))
theorem bX10_set_26 {G : GX} {h : mH} {Q : mO → mH → Prop} {vs0 : Int32} (hi : Iv h) (K : Q (.inl (some (.int vs0))) h) : Vw G jX10_set 26 [none, none, none, none, none, none] [.int vs0] h Q :=
  s_ireturn dX10_set_26 rfl K
theorem eX10_set {G : GX} {h : mH} {Q : mO → mH → Prop} {v1 : Int32} {v2 : Int32} {v3 : Int32} (hi : Iv h) (K : WM G jX10_needPendulum [.int v1] h (Aft G jX10_set 1 [some (.ref 0), some (.int v1), some (.int v2), some (.int v3), none, none] [] Q)) : WM G jX10_set [.ref 0, .int v1, .int v2, .int v3] h Q :=
  WM.body (ls := [some (.ref 0), some (.int v1), some (.int v2), some (.int v3), none, none]) rfl (by decide +kernel) rfl (Nat.le_of_ble_eq_true rfl) rfl ((bX10_set_0 hi  K))
theorem dX10_needTick_0 : decode cX10_needTick 0 = .ok (.iload_n 0, 1) := by decide +kernel
theorem dX10_needTick_1 : decode cX10_needTick 1 = .ok (.invokestatic 274, 3) := by decide +kernel
theorem dX10_needTick_4 : decode cX10_needTick 4 = .ok (.ifCond .ne 14, 3) := by decide +kernel
theorem dX10_needTick_7 : decode cX10_needTick 7 = .ok (.new 372, 3) := by decide +kernel
theorem dX10_needTick_10 : decode cX10_needTick 10 = .ok (.dup, 1) := by decide +kernel
theorem dX10_needTick_11 : decode cX10_needTick 11 = .ok (.ldc_w 385, 3) := by decide +kernel
theorem dX10_needTick_14 : decode cX10_needTick 14 = .ok (.invokespecial 376, 3) := by decide +kernel
theorem dX10_needTick_17 : decode cX10_needTick 17 = .ok (.athrow, 1) := by decide +kernel
theorem dX10_needTick_18 : decode cX10_needTick 18 = .ok (.return_, 1) := by decide +kernel
theorem bX10_needTick_0 {G : GX} {h : mH} {Q : mO → mH → Prop} {v0 : Int32} (hi : Iv h) (K : (¬ (fX10_isTick v0) = 0 → Q (.inl none) h) ∧ ((fX10_isTick v0) = 0 → ((h.1.length + 1 ≤ NC ∧ sl h + 6 ≤ NS) ∧ Q (.inr "java/lang/IllegalArgumentException") h ∧ ∀ n, n ≤ 6 → Q (.inr "java/lang/IllegalArgumentException") (aN h 200 n)))) : Vw G jX10_needTick 0 [some (.int v0)] [] h Q :=
  s_iload_n dX10_needTick_0 rfl (s_callS (As := [.int v0]) dX10_needTick_1 rfl lsX10_274 ⟨Nat.le_of_ble_eq_true rfl, Nat.le_of_ble_eq_true rfl⟩ rfl (Nat.le_of_ble_eq_true rfl) (mX10_isTick   (s_if_ne 18 dX10_needTick_4 rfl (fun q2 => s_return dX10_needTick_18 rfl (K.1 q2)) (fun q2 => s_throw dX10_needTick_7 dX10_needTick_10 dX10_needTick_11 dX10_needTick_14 dX10_needTick_17 rfl ktX10_385 (Nat.le_of_ble_eq_true rfl) (Nat.le_of_ble_eq_true rfl) (K.2 q2).1.1 (K.2 q2).1.2 (K.2 q2).2.1 (K.2 q2).2.2))))
theorem eX10_needTick {G : GX} {h : mH} {Q : mO → mH → Prop} {v0 : Int32} (hi : Iv h) (K : (¬ (fX10_isTick v0) = 0 → Q (.inl none) h) ∧ ((fX10_isTick v0) = 0 → ((h.1.length + 1 ≤ NC ∧ sl h + 6 ≤ NS) ∧ Q (.inr "java/lang/IllegalArgumentException") h ∧ ∀ n, n ≤ 6 → Q (.inr "java/lang/IllegalArgumentException") (aN h 200 n)))) : WM G jX10_needTick [.int v0] h Q :=
  WM.body (ls := [some (.int v0)]) rfl (by decide +kernel) rfl (Nat.le_of_ble_eq_true rfl) rfl ((bX10_needTick_0 hi  K))
theorem dX10_swing_0 : decode cX10_swing 0 = .ok (.iload_n 1, 1) := by decide +kernel
theorem dX10_swing_1 : decode cX10_swing 1 = .ok (.invokestatic 187, 3) := by decide +kernel
theorem dX10_swing_4 : decode cX10_swing 4 = .ok (.iload_n 2, 1) := by decide +kernel
theorem dX10_swing_5 : decode cX10_swing 5 = .ok (.invokestatic 212, 3) := by decide +kernel
theorem dX10_swing_8 : decode cX10_swing 8 = .ok (.aload_n 0, 1) := by decide +kernel
theorem dX10_swing_9 : decode cX10_swing 9 = .ok (.getfield 19, 3) := by decide +kernel
theorem dX10_swing_12 : decode cX10_swing 12 = .ok (.iload_n 1, 1) := by decide +kernel
theorem dX10_swing_13 : decode cX10_swing 13 = .ok (.iload_n 2, 1) := by decide +kernel
theorem dX10_swing_14 : decode cX10_swing 14 = .ok (.invokevirtual 215, 3) := by decide +kernel
theorem dX10_swing_17 : decode cX10_swing 17 = .ok (.ireturn, 1) := by decide +kernel
theorem bX10_swing_0 {G : GX} {h : mH} {Q : mO → mH → Prop} {v1 : Int32} {v2 : Int32} (hi : Iv h) (K : WM G jX10_needPendulum [.int v1] h (Aft G jX10_swing 1 [some (.ref 0), some (.int v1), some (.int v2)] [] Q)) : Vw G jX10_swing 0 [some (.ref 0), some (.int v1), some (.int v2)] [] h Q :=
  s_iload_n dX10_swing_0 rfl (s_callS (As := [.int v1]) dX10_swing_1 rfl lsX10_187 ⟨Nat.le_of_ble_eq_true rfl, Nat.le_of_ble_eq_true rfl⟩ rfl (Nat.le_of_ble_eq_true rfl) (K))
theorem bX10_swing_4 {G : GX} {h : mH} {Q : mO → mH → Prop} {v1 : Int32} {v2 : Int32} (hi : Iv h) (K : WM G jX10_needTick [.int v2] h (Aft G jX10_swing 5 [some (.ref 0), some (.int v1), some (.int v2)] [] Q)) : Vw G jX10_swing 4 [some (.ref 0), some (.int v1), some (.int v2)] [] h Q :=
  s_iload_n dX10_swing_4 rfl (s_callS (As := [.int v2]) dX10_swing_5 rfl lsX10_212 ⟨Nat.le_of_ble_eq_true rfl, Nat.le_of_ble_eq_true rfl⟩ rfl (Nat.le_of_ble_eq_true rfl) (K))
theorem bX10_swing_8 {G : GX} {h : mH} {Q : mO → mH → Prop} {v1 : Int32} {v2 : Int32} (hi : Iv h) (K : WM G jX2_where [.ref 3, .int v1, .int v2] h (Aft G jX10_swing 14 [none, none, none] [] Q)) : Vw G jX10_swing 8 [some (.ref 0), some (.int v1), some (.int v2)] [] h Q :=
  s_aload_n dX10_swing_8 rfl (s_getR (v := .ref 3) dX10_swing_9 flX10_19 rfl (hi.sh rfl rfl) (hi.rf (o := 0) (k := 1) (d := 3) rfl rfl) (s_iload_n dX10_swing_12 rfl (s_iload_n dX10_swing_13 rfl (Vw.mask [false, false, false] (s_callV (As := [.int v1, .int v2]) dX10_swing_14 rfl lvX10_215 ⟨Nat.le_of_ble_eq_true rfl, Nat.le_of_ble_eq_true rfl⟩ (hi.sh rfl rfl) ⟨_, _, by decide, rfl⟩ rfl (Nat.le_of_ble_eq_true rfl) (K))))))
theorem bX10_swing_17 {G : GX} {h : mH} {Q : mO → mH → Prop} {vs0 : Int32} (hi : Iv h) (K : Q (.inl (some (.int vs0))) h) : Vw G jX10_swing 17 [none, none, none] [.int vs0] h Q :=
  s_ireturn dX10_swing_17 rfl K
theorem eX10_swing {G : GX} {h : mH} {Q : mO → mH → Prop} {v1 : Int32} {v2 : Int32} (hi : Iv h) (K : WM G jX10_needPendulum [.int v1] h (Aft G jX10_swing 1 [some (.ref 0), some (.int v1), some (.int v2)] [] Q)) : WM G jX10_swing [.ref 0, .int v1, .int v2] h Q :=
  WM.body (ls := [some (.ref 0), some (.int v1), some (.int v2)]) rfl (by decide +kernel) rfl (Nat.le_of_ble_eq_true rfl) rfl ((bX10_swing_0 hi  K))
theorem dX10_pen_0 : decode cX10_pen 0 = .ok (.iload_n 2, 1) := by decide +kernel
theorem dX10_pen_1 : decode cX10_pen 1 = .ok (.iconst 1, 1) := by decide +kernel
theorem dX10_pen_2 : decode cX10_pen 2 = .ok (.invokestatic 140, 3) := by decide +kernel
theorem dX10_pen_5 : decode cX10_pen 5 = .ok (.iload_n 1, 1) := by decide +kernel
theorem dX10_pen_6 : decode cX10_pen 6 = .ok (.invokestatic 212, 3) := by decide +kernel
theorem dX10_pen_9 : decode cX10_pen 9 = .ok (.aload_n 0, 1) := by decide +kernel
theorem dX10_pen_10 : decode cX10_pen 10 = .ok (.getfield 19, 3) := by decide +kernel
theorem dX10_pen_13 : decode cX10_pen 13 = .ok (.iload_n 1, 1) := by decide +kernel
theorem dX10_pen_14 : decode cX10_pen 14 = .ok (.iload_n 2, 1) := by decide +kernel
theorem dX10_pen_15 : decode cX10_pen 15 = .ok (.invokevirtual 219, 3) := by decide +kernel
theorem dX10_pen_18 : decode cX10_pen 18 = .ok (.ireturn, 1) := by decide +kernel
theorem bX10_pen_0 {G : GX} {h : mH} {Q : mO → mH → Prop} {v1 : Int32} {v2 : Int32} (hi : Iv h) (K : WM G jX10_needWhat [.int v2, .int 1] h (Aft G jX10_pen 2 [some (.ref 0), some (.int v1), some (.int v2)] [] Q)) : Vw G jX10_pen 0 [some (.ref 0), some (.int v1), some (.int v2)] [] h Q :=
  s_iload_n dX10_pen_0 rfl (s_iconst 1 dX10_pen_1 (by decide) (s_callS (As := [.int v2, .int 1]) dX10_pen_2 rfl lsX10_140 ⟨Nat.le_of_ble_eq_true rfl, Nat.le_of_ble_eq_true rfl⟩ rfl (Nat.le_of_ble_eq_true rfl) (K)))
theorem bX10_pen_5 {G : GX} {h : mH} {Q : mO → mH → Prop} {v1 : Int32} {v2 : Int32} (hi : Iv h) (K : WM G jX10_needTick [.int v1] h (Aft G jX10_pen 6 [some (.ref 0), some (.int v1), some (.int v2)] [] Q)) : Vw G jX10_pen 5 [some (.ref 0), some (.int v1), some (.int v2)] [] h Q :=
  s_iload_n dX10_pen_5 rfl (s_callS (As := [.int v1]) dX10_pen_6 rfl lsX10_212 ⟨Nat.le_of_ble_eq_true rfl, Nat.le_of_ble_eq_true rfl⟩ rfl (Nat.le_of_ble_eq_true rfl) (K))
theorem bX10_pen_9 {G : GX} {h : mH} {Q : mO → mH → Prop} {v1 : Int32} {v2 : Int32} (hi : Iv h) (K : WM G jX2_penAt [.ref 3, .int v1, .int v2] h (Aft G jX10_pen 15 [none, none, none] [] Q)) : Vw G jX10_pen 9 [some (.ref 0), some (.int v1), some (.int v2)] [] h Q :=
  s_aload_n dX10_pen_9 rfl (s_getR (v := .ref 3) dX10_pen_10 flX10_19 rfl (hi.sh rfl rfl) (hi.rf (o := 0) (k := 1) (d := 3) rfl rfl) (s_iload_n dX10_pen_13 rfl (s_iload_n dX10_pen_14 rfl (Vw.mask [false, false, false] (s_callV (As := [.int v1, .int v2]) dX10_pen_15 rfl lvX10_219 ⟨Nat.le_of_ble_eq_true rfl, Nat.le_of_ble_eq_true rfl⟩ (hi.sh rfl rfl) ⟨_, _, by decide, rfl⟩ rfl (Nat.le_of_ble_eq_true rfl) (K))))))
theorem bX10_pen_18 {G : GX} {h : mH} {Q : mO → mH → Prop} {vs0 : Int32} (hi : Iv h) (K : Q (.inl (some (.int vs0))) h) : Vw G jX10_pen 18 [none, none, none] [.int vs0] h Q :=
  s_ireturn dX10_pen_18 rfl K
theorem eX10_pen {G : GX} {h : mH} {Q : mO → mH → Prop} {v1 : Int32} {v2 : Int32} (hi : Iv h) (K : WM G jX10_needWhat [.int v2, .int 1] h (Aft G jX10_pen 2 [some (.ref 0), some (.int v1), some (.int v2)] [] Q)) : WM G jX10_pen [.ref 0, .int v1, .int v2] h Q :=
  WM.body (ls := [some (.ref 0), some (.int v1), some (.int v2)]) rfl (by decide +kernel) rfl (Nat.le_of_ble_eq_true rfl) rfl ((bX10_pen_0 hi  K))
theorem dX10_needSpan_0 : decode cX10_needSpan 0 = .ok (.iload_n 0, 1) := by decide +kernel
theorem dX10_needSpan_1 : decode cX10_needSpan 1 = .ok (.invokestatic 212, 3) := by decide +kernel
theorem dX10_needSpan_4 : decode cX10_needSpan 4 = .ok (.iload_n 1, 1) := by decide +kernel
theorem dX10_needSpan_5 : decode cX10_needSpan 5 = .ok (.invokestatic 212, 3) := by decide +kernel
theorem dX10_needSpan_8 : decode cX10_needSpan 8 = .ok (.iload_n 1, 1) := by decide +kernel
theorem dX10_needSpan_9 : decode cX10_needSpan 9 = .ok (.iload_n 0, 1) := by decide +kernel
theorem dX10_needSpan_10 : decode cX10_needSpan 10 = .ok (.if_icmp .lt 12, 3) := by decide +kernel
theorem dX10_needSpan_13 : decode cX10_needSpan 13 = .ok (.iload_n 1, 1) := by decide +kernel
theorem dX10_needSpan_14 : decode cX10_needSpan 14 = .ok (.iload_n 0, 1) := by decide +kernel
theorem dX10_needSpan_15 : decode cX10_needSpan 15 = .ok (.isub, 1) := by decide +kernel
theorem dX10_needSpan_16 : decode cX10_needSpan 16 = .ok (.sipush 999, 3) := by decide +kernel
theorem dX10_needSpan_19 : decode cX10_needSpan 19 = .ok (.if_icmp .le 14, 3) := by decide +kernel
theorem dX10_needSpan_22 : decode cX10_needSpan 22 = .ok (.new 372, 3) := by decide +kernel
theorem dX10_needSpan_25 : decode cX10_needSpan 25 = .ok (.dup, 1) := by decide +kernel
theorem dX10_needSpan_26 : decode cX10_needSpan 26 = .ok (.ldc_w 387, 3) := by decide +kernel
theorem dX10_needSpan_29 : decode cX10_needSpan 29 = .ok (.invokespecial 376, 3) := by decide +kernel
theorem dX10_needSpan_32 : decode cX10_needSpan 32 = .ok (.athrow, 1) := by decide +kernel
theorem dX10_needSpan_33 : decode cX10_needSpan 33 = .ok (.return_, 1) := by decide +kernel
theorem bX10_needSpan_0 {G : GX} {h : mH} {Q : mO → mH → Prop} {v0 : Int32} {v1 : Int32} (hi : Iv h) (K : WM G jX10_needTick [.int v0] h (Aft G jX10_needSpan 1 [some (.int v0), some (.int v1)] [] Q)) : Vw G jX10_needSpan 0 [some (.int v0), some (.int v1)] [] h Q :=
  s_iload_n dX10_needSpan_0 rfl (s_callS (As := [.int v0]) dX10_needSpan_1 rfl lsX10_212 ⟨Nat.le_of_ble_eq_true rfl, Nat.le_of_ble_eq_true rfl⟩ rfl (Nat.le_of_ble_eq_true rfl) (K))
theorem bX10_needSpan_4 {G : GX} {h : mH} {Q : mO → mH → Prop} {v0 : Int32} {v1 : Int32} (hi : Iv h) (K : WM G jX10_needTick [.int v1] h (Aft G jX10_needSpan 5 [some (.int v0), some (.int v1)] [] Q)) : Vw G jX10_needSpan 4 [some (.int v0), some (.int v1)] [] h Q :=
  s_iload_n dX10_needSpan_4 rfl (s_callS (As := [.int v1]) dX10_needSpan_5 rfl lsX10_212 ⟨Nat.le_of_ble_eq_true rfl, Nat.le_of_ble_eq_true rfl⟩ rfl (Nat.le_of_ble_eq_true rfl) (K))
theorem bX10_needSpan_8 {G : GX} {h : mH} {Q : mO → mH → Prop} {v0 : Int32} {v1 : Int32} (hi : Iv h) (K : (v1 < v0 → Vw G jX10_needSpan 22 [none, none] [] h Q) ∧ (¬ v1 < v0 → (((v1 - v0) ≤ 999 → Q (.inl none) h) ∧ (¬ (v1 - v0) ≤ 999 → Vw G jX10_needSpan 22 [none, none] [] h Q)))) : Vw G jX10_needSpan 8 [some (.int v0), some (.int v1)] [] h Q :=
  s_iload_n dX10_needSpan_8 rfl (s_iload_n dX10_needSpan_9 rfl (s_icmp_lt 22 dX10_needSpan_10 rfl (fun q2 => Vw.mask [false, false] ((K.1 q2))) (fun q2 => s_iload_n dX10_needSpan_13 rfl (s_iload_n dX10_needSpan_14 rfl (s_isub dX10_needSpan_15 (s_sipush 999 dX10_needSpan_16 (by decide) (s_icmp_le 33 dX10_needSpan_19 rfl (fun q7 => s_return dX10_needSpan_33 rfl ((K.2 q2).1 q7)) (fun q7 => Vw.mask [false, false] (((K.2 q2).2 q7))))))))))
theorem bX10_needSpan_22 {G : GX} {h : mH} {Q : mO → mH → Prop} (hi : Iv h) (K : (h.1.length + 1 ≤ NC ∧ sl h + 6 ≤ NS) ∧ Q (.inr "java/lang/IllegalArgumentException") h ∧ ∀ n, n ≤ 6 → Q (.inr "java/lang/IllegalArgumentException") (aN h 200 n)) : Vw G jX10_needSpan 22 [none, none] [] h Q :=
  s_throw dX10_needSpan_22 dX10_needSpan_25 dX10_needSpan_26 dX10_needSpan_29 dX10_needSpan_32 rfl ktX10_387 (Nat.le_of_ble_eq_true rfl) (Nat.le_of_ble_eq_true rfl) K.1.1 K.1.2 K.2.1 K.2.2
theorem eX10_needSpan {G : GX} {h : mH} {Q : mO → mH → Prop} {v0 : Int32} {v1 : Int32} (hi : Iv h) (K : WM G jX10_needTick [.int v0] h (Aft G jX10_needSpan 1 [some (.int v0), some (.int v1)] [] Q)) : WM G jX10_needSpan [.int v0, .int v1] h Q :=
  WM.body (ls := [some (.int v0), some (.int v1)]) rfl (by decide +kernel) rfl (Nat.le_of_ble_eq_true rfl) rfl ((bX10_needSpan_0 hi  K))
theorem dX10_markSeen_0 : decode cX10_markSeen 0 = .ok (.iload_n 2, 1) := by decide +kernel
theorem dX10_markSeen_1 : decode cX10_markSeen 1 = .ok (.istore 5, 2) := by decide +kernel
theorem dX10_markSeen_3 : decode cX10_markSeen 3 = .ok (.iload 5, 2) := by decide +kernel
theorem dX10_markSeen_5 : decode cX10_markSeen 5 = .ok (.iload_n 3, 1) := by decide +kernel
theorem dX10_markSeen_6 : decode cX10_markSeen 6 = .ok (.if_icmp .gt 37, 3) := by decide +kernel
theorem dX10_markSeen_9 : decode cX10_markSeen 9 = .ok (.aload_n 1, 1) := by decide +kernel
theorem dX10_markSeen_10 : decode cX10_markSeen 10 = .ok (.iload 5, 2) := by decide +kernel
theorem dX10_markSeen_12 : decode cX10_markSeen 12 = .ok (.invokevirtual 238, 3) := by decide +kernel
theorem dX10_markSeen_15 : decode cX10_markSeen 15 = .ok (.istore 6, 2) := by decide +kernel
theorem dX10_markSeen_17 : decode cX10_markSeen 17 = .ok (.iload 6, 2) := by decide +kernel
theorem dX10_markSeen_19 : decode cX10_markSeen 19 = .ok (.invokestatic 369, 3) := by decide +kernel
theorem dX10_markSeen_22 : decode cX10_markSeen 22 = .ok (.ifCond .eq 15, 3) := by decide +kernel
theorem dX10_markSeen_25 : decode cX10_markSeen 25 = .ok (.aload_n 0, 1) := by decide +kernel
theorem dX10_markSeen_26 : decode cX10_markSeen 26 = .ok (.getfield 88, 3) := by decide +kernel
theorem dX10_markSeen_29 : decode cX10_markSeen 29 = .ok (.iload 6, 2) := by decide +kernel
theorem dX10_markSeen_31 : decode cX10_markSeen 31 = .ok (.dup2, 1) := by decide +kernel
theorem dX10_markSeen_32 : decode cX10_markSeen 32 = .ok (.iaload, 1) := by decide +kernel
theorem dX10_markSeen_33 : decode cX10_markSeen 33 = .ok (.iload 4, 2) := by decide +kernel
theorem dX10_markSeen_35 : decode cX10_markSeen 35 = .ok (.ior, 1) := by decide +kernel
theorem dX10_markSeen_36 : decode cX10_markSeen 36 = .ok (.iastore, 1) := by decide +kernel
theorem dX10_markSeen_37 : decode cX10_markSeen 37 = .ok (.iinc 5 1, 3) := by decide +kernel
theorem dX10_markSeen_40 : decode cX10_markSeen 40 = .ok (.goto (-37), 3) := by decide +kernel
theorem dX10_markSeen_43 : decode cX10_markSeen 43 = .ok (.return_, 1) := by decide +kernel
theorem bX10_markSeen_0 {G : GX} {h : mH} {Q : mO → mH → Prop} {r1 : Nat} {v2 : Int32} {v3 : Int32} {v4 : Int32} (hi : Iv h) (k1 : kd r1 = (2, 11)) (K : Vw G jX10_markSeen 3 [some (.ref 0), some (.ref r1), none, some (.int v3), some (.int v4), some (.int v2), none] [] h Q) : Vw G jX10_markSeen 0 [some (.ref 0), some (.ref r1), some (.int v2), some (.int v3), some (.int v4), none, none] [] h Q :=
  s_iload_n dX10_markSeen_0 rfl (s_istore dX10_markSeen_1 (Nat.le_of_ble_eq_true rfl) rfl (Vw.mask [true, true, false, true, true, true, false] (K)))
theorem bX10_markSeen_3 {G : GX} {h : mH} {Q : mO → mH → Prop} {r1 : Nat} {v3 : Int32} {v4 : Int32} {v5 : Int32} (hi : Iv h) (k1 : kd r1 = (2, 11)) (K : (v3 < v5 → Q (.inl none) h) ∧ (¬ v3 < v5 → WM G jX2_cellAt [.ref r1, .int v5] h (Aft G jX10_markSeen 12 [some (.ref 0), some (.ref r1), none, some (.int v3), some (.int v4), some (.int v5), none] [] Q))) : Vw G jX10_markSeen 3 [some (.ref 0), some (.ref r1), none, some (.int v3), some (.int v4), some (.int v5), none] [] h Q :=
  s_iload dX10_markSeen_3 rfl (s_iload_n dX10_markSeen_5 rfl (s_icmp_gt 43 dX10_markSeen_6 rfl (fun q2 => s_return dX10_markSeen_43 rfl (K.1 q2)) (fun q2 => s_aload_n dX10_markSeen_9 rfl (s_iload dX10_markSeen_10 rfl (s_callV (As := [.int v5]) dX10_markSeen_12 rfl lvX10_238 ⟨Nat.le_of_ble_eq_true rfl, Nat.le_of_ble_eq_true rfl⟩ (hi.sh k1 rfl) ⟨_, _, by decide, rfl⟩ rfl (Nat.le_of_ble_eq_true rfl) ((K.2 q2)))))))
theorem bX10_markSeen_15 {G : GX} {h : mH} {Q : mO → mH → Prop} {r1 : Nat} {v3 : Int32} {v4 : Int32} {v5 : Int32} {vs0 : Int32} (hi : Iv h) (k1 : kd r1 = (2, 11)) (K : ((fX10_isCell vs0) = 0 → Vw G jX10_markSeen 37 [some (.ref 0), some (.ref r1), none, some (.int v3), some (.int v4), some (.int v5), none] [] h Q) ∧ (¬ (fX10_isCell vs0) = 0 → (vp_in vs0 729 ∧ (vp_in vs0 729 ∧ Vw G jX10_markSeen 37 [some (.ref 0), some (.ref r1), none, some (.int v3), some (.int v4), some (.int v5), none] [] (pI h 81 (Int32.toNatClampNeg vs0) ((gI h 81 (Int32.toNatClampNeg vs0)) ||| v4)) Q)))) : Vw G jX10_markSeen 15 [some (.ref 0), some (.ref r1), none, some (.int v3), some (.int v4), some (.int v5), none] [.int vs0] h Q :=
  s_istore dX10_markSeen_15 (Nat.le_of_ble_eq_true rfl) rfl (s_iload dX10_markSeen_17 rfl (s_callS (As := [.int vs0]) dX10_markSeen_19 rfl lsX10_369 ⟨Nat.le_of_ble_eq_true rfl, Nat.le_of_ble_eq_true rfl⟩ rfl (Nat.le_of_ble_eq_true rfl) (mX10_isCell   (s_if_eq 37 dX10_markSeen_22 rfl (fun q3 => Vw.mask [true, true, false, true, true, true, false] ((K.1 q3))) (fun q3 => s_aload_n dX10_markSeen_25 rfl (s_getR (v := .ref 81) dX10_markSeen_26 flX10_88 rfl (hi.sh rfl rfl) (hi.rf (o := 0) (k := 14) (d := 81) rfl rfl) (s_iload dX10_markSeen_29 rfl (s_dup2ir dX10_markSeen_31 (s_iaload dX10_markSeen_32 (hi.sh rfl rfl) (K.2 q3).1 (s_iload dX10_markSeen_33 rfl (s_ior dX10_markSeen_35 (s_iastore dX10_markSeen_36 (hi.sh rfl rfl) (K.2 q3).2.1 (Vw.mask [true, true, false, true, true, true, false] ((K.2 q3).2.2))))))))))))))
theorem bX10_markSeen_37 {G : GX} {h : mH} {Q : mO → mH → Prop} {r1 : Nat} {v3 : Int32} {v4 : Int32} {v5 : Int32} (hi : Iv h) (k1 : kd r1 = (2, 11)) (K : Vw G jX10_markSeen 3 [some (.ref 0), some (.ref r1), none, some (.int v3), some (.int v4), some (.int (v5 + 1)), none] [] h Q) : Vw G jX10_markSeen 37 [some (.ref 0), some (.ref r1), none, some (.int v3), some (.int v4), some (.int v5), none] [] h Q :=
  s_iinc 1 dX10_markSeen_37 rfl (by decide) (Nat.le_of_ble_eq_true rfl) rfl (s_goto 3 dX10_markSeen_40 rfl (K))
theorem eX10_markSeen {G : GX} {h : mH} {Q : mO → mH → Prop} {r1 : Nat} {v2 : Int32} {v3 : Int32} {v4 : Int32} (hi : Iv h) (k1 : kd r1 = (2, 11)) (K : Vw G jX10_markSeen 3 [some (.ref 0), some (.ref r1), none, some (.int v3), some (.int v4), some (.int v2), none] [] h Q) : WM G jX10_markSeen [.ref 0, .ref r1, .int v2, .int v3, .int v4] h Q :=
  WM.body (ls := [some (.ref 0), some (.ref r1), some (.int v2), some (.int v3), some (.int v4), none, none]) rfl (by decide +kernel) rfl (Nat.le_of_ble_eq_true rfl) rfl ((bX10_markSeen_0 hi k1 K))
theorem dX10_cellsSeen_0 : decode cX10_cellsSeen 0 = .ok (.iconst 0, 1) := by decide +kernel
theorem dX10_cellsSeen_1 : decode cX10_cellsSeen 1 = .ok (.istore_n 2, 1) := by decide +kernel
theorem dX10_cellsSeen_2 : decode cX10_cellsSeen 2 = .ok (.iconst 0, 1) := by decide +kernel
theorem dX10_cellsSeen_3 : decode cX10_cellsSeen 3 = .ok (.istore_n 3, 1) := by decide +kernel
theorem dX10_cellsSeen_4 : decode cX10_cellsSeen 4 = .ok (.iload_n 3, 1) := by decide +kernel
theorem dX10_cellsSeen_5 : decode cX10_cellsSeen 5 = .ok (.sipush 729, 3) := by decide +kernel
theorem dX10_cellsSeen_8 : decode cX10_cellsSeen 8 = .ok (.if_icmp .ge 22, 3) := by decide +kernel
theorem dX10_cellsSeen_11 : decode cX10_cellsSeen 11 = .ok (.aload_n 0, 1) := by decide +kernel
theorem dX10_cellsSeen_12 : decode cX10_cellsSeen 12 = .ok (.getfield 88, 3) := by decide +kernel
theorem dX10_cellsSeen_15 : decode cX10_cellsSeen 15 = .ok (.iload_n 3, 1) := by decide +kernel
theorem dX10_cellsSeen_16 : decode cX10_cellsSeen 16 = .ok (.iaload, 1) := by decide +kernel
theorem dX10_cellsSeen_17 : decode cX10_cellsSeen 17 = .ok (.iload_n 1, 1) := by decide +kernel
theorem dX10_cellsSeen_18 : decode cX10_cellsSeen 18 = .ok (.if_icmp .ne 6, 3) := by decide +kernel
theorem dX10_cellsSeen_21 : decode cX10_cellsSeen 21 = .ok (.iinc 2 1, 3) := by decide +kernel
theorem dX10_cellsSeen_24 : decode cX10_cellsSeen 24 = .ok (.iinc 3 1, 3) := by decide +kernel
theorem dX10_cellsSeen_27 : decode cX10_cellsSeen 27 = .ok (.goto (-23), 3) := by decide +kernel
theorem dX10_cellsSeen_30 : decode cX10_cellsSeen 30 = .ok (.iload_n 2, 1) := by decide +kernel
theorem dX10_cellsSeen_31 : decode cX10_cellsSeen 31 = .ok (.ireturn, 1) := by decide +kernel
theorem bX10_cellsSeen_0 {G : GX} {h : mH} {Q : mO → mH → Prop} {v1 : Int32} (hi : Iv h) (K : Vw G jX10_cellsSeen 4 [some (.ref 0), some (.int v1), some (.int 0), some (.int 0)] [] h Q) : Vw G jX10_cellsSeen 0 [some (.ref 0), some (.int v1), none, none] [] h Q :=
  s_iconst 0 dX10_cellsSeen_0 (by decide) (s_istore_n dX10_cellsSeen_1 (Nat.le_of_ble_eq_true rfl) rfl (s_iconst 0 dX10_cellsSeen_2 (by decide) (s_istore_n dX10_cellsSeen_3 (Nat.le_of_ble_eq_true rfl) rfl (K))))
theorem bX10_cellsSeen_4 {G : GX} {h : mH} {Q : mO → mH → Prop} {v1 : Int32} {v2 : Int32} {v3 : Int32} (hi : Iv h) (K : (729 ≤ v3 → Q (.inl (some (.int v2))) h) ∧ (¬ 729 ≤ v3 → (vp_in v3 729 ∧ ((¬ (gI h 81 (Int32.toNatClampNeg v3)) = v1 → Vw G jX10_cellsSeen 24 [some (.ref 0), some (.int v1), some (.int v2), some (.int v3)] [] h Q) ∧ ((gI h 81 (Int32.toNatClampNeg v3)) = v1 → Vw G jX10_cellsSeen 24 [some (.ref 0), some (.int v1), some (.int (v2 + 1)), some (.int v3)] [] h Q))))) : Vw G jX10_cellsSeen 4 [some (.ref 0), some (.int v1), some (.int v2), some (.int v3)] [] h Q :=
  s_iload_n dX10_cellsSeen_4 rfl (s_sipush 729 dX10_cellsSeen_5 (by decide) (s_icmp_ge 30 dX10_cellsSeen_8 rfl (fun q2 => s_iload_n dX10_cellsSeen_30 rfl (s_ireturn dX10_cellsSeen_31 rfl (K.1 q2))) (fun q2 => s_aload_n dX10_cellsSeen_11 rfl (s_getR (v := .ref 81) dX10_cellsSeen_12 flX10_88 rfl (hi.sh rfl rfl) (hi.rf (o := 0) (k := 14) (d := 81) rfl rfl) (s_iload_n dX10_cellsSeen_15 rfl (s_iaload dX10_cellsSeen_16 (hi.sh rfl rfl) (K.2 q2).1 (s_iload_n dX10_cellsSeen_17 rfl (s_icmp_ne 24 dX10_cellsSeen_18 rfl (fun q8 => ((K.2 q2).2.1 q8)) (fun q8 => s_iinc 1 dX10_cellsSeen_21 rfl (by decide) (Nat.le_of_ble_eq_true rfl) rfl (((K.2 q2).2.2 q8)))))))))))
theorem bX10_cellsSeen_24 {G : GX} {h : mH} {Q : mO → mH → Prop} {v1 : Int32} {v2 : Int32} {v3 : Int32} (hi : Iv h) (K : Vw G jX10_cellsSeen 4 [some (.ref 0), some (.int v1), some (.int v2), some (.int (v3 + 1))] [] h Q) : Vw G jX10_cellsSeen 24 [some (.ref 0), some (.int v1), some (.int v2), some (.int v3)] [] h Q :=
  s_iinc 1 dX10_cellsSeen_24 rfl (by decide) (Nat.le_of_ble_eq_true rfl) rfl (s_goto 4 dX10_cellsSeen_27 rfl (K))
theorem eX10_cellsSeen {G : GX} {h : mH} {Q : mO → mH → Prop} {v1 : Int32} (hi : Iv h) (K : Vw G jX10_cellsSeen 4 [some (.ref 0), some (.int v1), some (.int 0), some (.int 0)] [] h Q) : WM G jX10_cellsSeen [.ref 0, .int v1] h Q :=
  WM.body (ls := [some (.ref 0), some (.int v1), none, none]) rfl (by decide +kernel) rfl (Nat.le_of_ble_eq_true rfl) rfl ((bX10_cellsSeen_0 hi  K))
theorem dX10_drawn_0 : decode cX10_drawn 0 = .ok (.iload_n 1, 1) := by decide +kernel
theorem dX10_drawn_1 : decode cX10_drawn 1 = .ok (.iload_n 2, 1) := by decide +kernel
theorem dX10_drawn_2 : decode cX10_drawn 2 = .ok (.invokestatic 222, 3) := by decide +kernel
theorem dX10_drawn_5 : decode cX10_drawn 5 = .ok (.aload_n 0, 1) := by decide +kernel
theorem dX10_drawn_6 : decode cX10_drawn 6 = .ok (.getfield 88, 3) := by decide +kernel
theorem dX10_drawn_9 : decode cX10_drawn 9 = .ok (.iconst 0, 1) := by decide +kernel
theorem dX10_drawn_10 : decode cX10_drawn 10 = .ok (.invokestatic 225, 3) := by decide +kernel
theorem dX10_drawn_13 : decode cX10_drawn 13 = .ok (.aload_n 0, 1) := by decide +kernel
theorem dX10_drawn_14 : decode cX10_drawn 14 = .ok (.aload_n 0, 1) := by decide +kernel
theorem dX10_drawn_15 : decode cX10_drawn 15 = .ok (.getfield 19, 3) := by decide +kernel
theorem dX10_drawn_18 : decode cX10_drawn 18 = .ok (.iload_n 1, 1) := by decide +kernel
theorem dX10_drawn_19 : decode cX10_drawn 19 = .ok (.iload_n 2, 1) := by decide +kernel
theorem dX10_drawn_20 : decode cX10_drawn 20 = .ok (.iconst 1, 1) := by decide +kernel
theorem dX10_drawn_21 : decode cX10_drawn 21 = .ok (.invokevirtual 231, 3) := by decide +kernel
theorem dX10_drawn_24 : decode cX10_drawn 24 = .ok (.aload_n 0, 1) := by decide +kernel
theorem dX10_drawn_25 : decode cX10_drawn 25 = .ok (.iconst 1, 1) := by decide +kernel
theorem dX10_drawn_26 : decode cX10_drawn 26 = .ok (.invokevirtual 235, 3) := by decide +kernel
theorem dX10_drawn_29 : decode cX10_drawn 29 = .ok (.ireturn, 1) := by decide +kernel
theorem bX10_drawn_0 {G : GX} {h : mH} {Q : mO → mH → Prop} {v1 : Int32} {v2 : Int32} (hi : Iv h) (K : WM G jX10_needSpan [.int v1, .int v2] h (Aft G jX10_drawn 2 [some (.ref 0), some (.int v1), some (.int v2)] [] Q)) : Vw G jX10_drawn 0 [some (.ref 0), some (.int v1), some (.int v2)] [] h Q :=
  s_iload_n dX10_drawn_0 rfl (s_iload_n dX10_drawn_1 rfl (s_callS (As := [.int v1, .int v2]) dX10_drawn_2 rfl lsX10_222 ⟨Nat.le_of_ble_eq_true rfl, Nat.le_of_ble_eq_true rfl⟩ rfl (Nat.le_of_ble_eq_true rfl) (K)))
theorem bX10_drawn_5 {G : GX} {h : mH} {Q : mO → mH → Prop} {v1 : Int32} {v2 : Int32} (hi : Iv h) (K : WM G jJ7_fill_53178 [.ref 81, .int 0] h (Aft G jX10_drawn 10 [some (.ref 0), some (.int v1), some (.int v2)] [] Q)) : Vw G jX10_drawn 5 [some (.ref 0), some (.int v1), some (.int v2)] [] h Q :=
  s_aload_n dX10_drawn_5 rfl (s_getR (v := .ref 81) dX10_drawn_6 flX10_88 rfl (hi.sh rfl rfl) (hi.rf (o := 0) (k := 14) (d := 81) rfl rfl) (s_iconst 0 dX10_drawn_9 (by decide) (s_callS (As := [.ref 81, .int 0]) dX10_drawn_10 rfl lsX10_225 ⟨Nat.le_of_ble_eq_true rfl, Nat.le_of_ble_eq_true rfl⟩ rfl (Nat.le_of_ble_eq_true rfl) (K))))
theorem bX10_drawn_13 {G : GX} {h : mH} {Q : mO → mH → Prop} {v1 : Int32} {v2 : Int32} (hi : Iv h) (K : WM G jX10_markSeen [.ref 0, .ref 3, .int v1, .int v2, .int 1] h (Aft G jX10_drawn 21 [some (.ref 0), none, none] [] Q)) : Vw G jX10_drawn 13 [some (.ref 0), some (.int v1), some (.int v2)] [] h Q :=
  s_aload_n dX10_drawn_13 rfl (s_aload_n dX10_drawn_14 rfl (s_getR (v := .ref 3) dX10_drawn_15 flX10_19 rfl (hi.sh rfl rfl) (hi.rf (o := 0) (k := 1) (d := 3) rfl rfl) (s_iload_n dX10_drawn_18 rfl (s_iload_n dX10_drawn_19 rfl (s_iconst 1 dX10_drawn_20 (by decide) (Vw.mask [true, false, false] (s_callV (As := [.ref 3, .int v1, .int v2, .int 1]) dX10_drawn_21 rfl lvX10_231 ⟨Nat.le_of_ble_eq_true rfl, Nat.le_of_ble_eq_true rfl⟩ (hi.sh rfl rfl) ⟨_, _, by decide, rfl⟩ rfl (Nat.le_of_ble_eq_true rfl) (K))))))))
theorem bX10_drawn_24 {G : GX} {h : mH} {Q : mO → mH → Prop} (hi : Iv h) (K : WM G jX10_cellsSeen [.ref 0, .int 1] h (Aft G jX10_drawn 26 [none, none, none] [] Q)) : Vw G jX10_drawn 24 [some (.ref 0), none, none] [] h Q :=
  s_aload_n dX10_drawn_24 rfl (s_iconst 1 dX10_drawn_25 (by decide) (Vw.mask [false, false, false] (s_callV (As := [.int 1]) dX10_drawn_26 rfl lvX10_235 ⟨Nat.le_of_ble_eq_true rfl, Nat.le_of_ble_eq_true rfl⟩ (hi.sh rfl rfl) ⟨_, _, by decide, rfl⟩ rfl (Nat.le_of_ble_eq_true rfl) (K))))
theorem bX10_drawn_29 {G : GX} {h : mH} {Q : mO → mH → Prop} {vs0 : Int32} (hi : Iv h) (K : Q (.inl (some (.int vs0))) h) : Vw G jX10_drawn 29 [none, none, none] [.int vs0] h Q :=
  s_ireturn dX10_drawn_29 rfl K
theorem eX10_drawn {G : GX} {h : mH} {Q : mO → mH → Prop} {v1 : Int32} {v2 : Int32} (hi : Iv h) (K : WM G jX10_needSpan [.int v1, .int v2] h (Aft G jX10_drawn 2 [some (.ref 0), some (.int v1), some (.int v2)] [] Q)) : WM G jX10_drawn [.ref 0, .int v1, .int v2] h Q :=
  WM.body (ls := [some (.ref 0), some (.int v1), some (.int v2)]) rfl (by decide +kernel) rfl (Nat.le_of_ble_eq_true rfl) rfl ((bX10_drawn_0 hi  K))
theorem dX10_inCell_0 : decode cX10_inCell 0 = .ok (.iload_n 1, 1) := by decide +kernel
theorem dX10_inCell_1 : decode cX10_inCell 1 = .ok (.invokestatic 163, 3) := by decide +kernel
theorem dX10_inCell_4 : decode cX10_inCell 4 = .ok (.iload_n 2, 1) := by decide +kernel
theorem dX10_inCell_5 : decode cX10_inCell 5 = .ok (.iload_n 3, 1) := by decide +kernel
theorem dX10_inCell_6 : decode cX10_inCell 6 = .ok (.invokestatic 222, 3) := by decide +kernel
theorem dX10_inCell_9 : decode cX10_inCell 9 = .ok (.iload_n 2, 1) := by decide +kernel
theorem dX10_inCell_10 : decode cX10_inCell 10 = .ok (.istore 4, 2) := by decide +kernel
theorem dX10_inCell_12 : decode cX10_inCell 12 = .ok (.iload 4, 2) := by decide +kernel
theorem dX10_inCell_14 : decode cX10_inCell 14 = .ok (.iload_n 3, 1) := by decide +kernel
theorem dX10_inCell_15 : decode cX10_inCell 15 = .ok (.if_icmp .gt 25, 3) := by decide +kernel
theorem dX10_inCell_18 : decode cX10_inCell 18 = .ok (.aload_n 0, 1) := by decide +kernel
theorem dX10_inCell_19 : decode cX10_inCell 19 = .ok (.getfield 19, 3) := by decide +kernel
theorem dX10_inCell_22 : decode cX10_inCell 22 = .ok (.iload 4, 2) := by decide +kernel
theorem dX10_inCell_24 : decode cX10_inCell 24 = .ok (.invokevirtual 238, 3) := by decide +kernel
theorem dX10_inCell_27 : decode cX10_inCell 27 = .ok (.iload_n 1, 1) := by decide +kernel
theorem dX10_inCell_28 : decode cX10_inCell 28 = .ok (.if_icmp .ne 6, 3) := by decide +kernel
theorem dX10_inCell_31 : decode cX10_inCell 31 = .ok (.iload 4, 2) := by decide +kernel
theorem dX10_inCell_33 : decode cX10_inCell 33 = .ok (.ireturn, 1) := by decide +kernel
theorem dX10_inCell_34 : decode cX10_inCell 34 = .ok (.iinc 4 1, 3) := by decide +kernel
theorem dX10_inCell_37 : decode cX10_inCell 37 = .ok (.goto (-25), 3) := by decide +kernel
theorem dX10_inCell_40 : decode cX10_inCell 40 = .ok (.iconst (-1), 1) := by decide +kernel
theorem dX10_inCell_41 : decode cX10_inCell 41 = .ok (.ireturn, 1) := by decide +kernel
theorem bX10_inCell_0 {G : GX} {h : mH} {Q : mO → mH → Prop} {v1 : Int32} {v2 : Int32} {v3 : Int32} (hi : Iv h) (K : WM G jX10_needCell [.int v1] h (Aft G jX10_inCell 1 [some (.ref 0), some (.int v1), some (.int v2), some (.int v3), none] [] Q)) : Vw G jX10_inCell 0 [some (.ref 0), some (.int v1), some (.int v2), some (.int v3), none] [] h Q :=
  s_iload_n dX10_inCell_0 rfl (s_callS (As := [.int v1]) dX10_inCell_1 rfl lsX10_163 ⟨Nat.le_of_ble_eq_true rfl, Nat.le_of_ble_eq_true rfl⟩ rfl (Nat.le_of_ble_eq_true rfl) (K))
theorem bX10_inCell_4 {G : GX} {h : mH} {Q : mO → mH → Prop} {v1 : Int32} {v2 : Int32} {v3 : Int32} (hi : Iv h) (K : WM G jX10_needSpan [.int v2, .int v3] h (Aft G jX10_inCell 6 [some (.ref 0), some (.int v1), some (.int v2), some (.int v3), none] [] Q)) : Vw G jX10_inCell 4 [some (.ref 0), some (.int v1), some (.int v2), some (.int v3), none] [] h Q :=
  s_iload_n dX10_inCell_4 rfl (s_iload_n dX10_inCell_5 rfl (s_callS (As := [.int v2, .int v3]) dX10_inCell_6 rfl lsX10_222 ⟨Nat.le_of_ble_eq_true rfl, Nat.le_of_ble_eq_true rfl⟩ rfl (Nat.le_of_ble_eq_true rfl) (K)))
theorem bX10_inCell_9 {G : GX} {h : mH} {Q : mO → mH → Prop} {v1 : Int32} {v2 : Int32} {v3 : Int32} (hi : Iv h) (K : Vw G jX10_inCell 12 [some (.ref 0), some (.int v1), none, some (.int v3), some (.int v2)] [] h Q) : Vw G jX10_inCell 9 [some (.ref 0), some (.int v1), some (.int v2), some (.int v3), none] [] h Q :=
  s_iload_n dX10_inCell_9 rfl (s_istore dX10_inCell_10 (Nat.le_of_ble_eq_true rfl) rfl (Vw.mask [true, true, false, true, true] (K)))
theorem bX10_inCell_12 {G : GX} {h : mH} {Q : mO → mH → Prop} {v1 : Int32} {v3 : Int32} {v4 : Int32} (hi : Iv h) (K : (v3 < v4 → Q (.inl (some (.int (-1)))) h) ∧ (¬ v3 < v4 → WM G jX2_cellAt [.ref 3, .int v4] h (Aft G jX10_inCell 24 [some (.ref 0), some (.int v1), none, some (.int v3), some (.int v4)] [] Q))) : Vw G jX10_inCell 12 [some (.ref 0), some (.int v1), none, some (.int v3), some (.int v4)] [] h Q :=
  s_iload dX10_inCell_12 rfl (s_iload_n dX10_inCell_14 rfl (s_icmp_gt 40 dX10_inCell_15 rfl (fun q2 => s_iconst (-1) dX10_inCell_40 (by decide) (s_ireturn dX10_inCell_41 rfl (K.1 q2))) (fun q2 => s_aload_n dX10_inCell_18 rfl (s_getR (v := .ref 3) dX10_inCell_19 flX10_19 rfl (hi.sh rfl rfl) (hi.rf (o := 0) (k := 1) (d := 3) rfl rfl) (s_iload dX10_inCell_22 rfl (s_callV (As := [.int v4]) dX10_inCell_24 rfl lvX10_238 ⟨Nat.le_of_ble_eq_true rfl, Nat.le_of_ble_eq_true rfl⟩ (hi.sh rfl rfl) ⟨_, _, by decide, rfl⟩ rfl (Nat.le_of_ble_eq_true rfl) ((K.2 q2))))))))
theorem bX10_inCell_27 {G : GX} {h : mH} {Q : mO → mH → Prop} {v1 : Int32} {v3 : Int32} {v4 : Int32} {vs0 : Int32} (hi : Iv h) (K : (¬ vs0 = v1 → Vw G jX10_inCell 12 [some (.ref 0), some (.int v1), none, some (.int v3), some (.int (v4 + 1))] [] h Q) ∧ (vs0 = v1 → Q (.inl (some (.int v4))) h)) : Vw G jX10_inCell 27 [some (.ref 0), some (.int v1), none, some (.int v3), some (.int v4)] [.int vs0] h Q :=
  s_iload_n dX10_inCell_27 rfl (s_icmp_ne 34 dX10_inCell_28 rfl (fun q1 => s_iinc 1 dX10_inCell_34 rfl (by decide) (Nat.le_of_ble_eq_true rfl) rfl (s_goto 12 dX10_inCell_37 rfl ((K.1 q1)))) (fun q1 => s_iload dX10_inCell_31 rfl (s_ireturn dX10_inCell_33 rfl (K.2 q1))))
theorem eX10_inCell {G : GX} {h : mH} {Q : mO → mH → Prop} {v1 : Int32} {v2 : Int32} {v3 : Int32} (hi : Iv h) (K : WM G jX10_needCell [.int v1] h (Aft G jX10_inCell 1 [some (.ref 0), some (.int v1), some (.int v2), some (.int v3), none] [] Q)) : WM G jX10_inCell [.ref 0, .int v1, .int v2, .int v3] h Q :=
  WM.body (ls := [some (.ref 0), some (.int v1), some (.int v2), some (.int v3), none]) rfl (by decide +kernel) rfl (Nat.le_of_ble_eq_true rfl) rfl ((bX10_inCell_0 hi  K))
theorem dX10_round_0 : decode cX10_round 0 = .ok (.aload_n 0, 1) := by decide +kernel
theorem dX10_round_1 : decode cX10_round 1 = .ok (.getfield 19, 3) := by decide +kernel
theorem dX10_round_4 : decode cX10_round 4 = .ok (.invokevirtual 241, 3) := by decide +kernel
theorem dX10_round_7 : decode cX10_round 7 = .ok (.ireturn, 1) := by decide +kernel
theorem bX10_round_0 {G : GX} {h : mH} {Q : mO → mH → Prop} (hi : Iv h) (K : WM G jX2_ticksRound [.ref 3] h (Aft G jX10_round 4 [none] [] Q)) : Vw G jX10_round 0 [some (.ref 0)] [] h Q :=
  s_aload_n dX10_round_0 rfl (s_getR (v := .ref 3) dX10_round_1 flX10_19 rfl (hi.sh rfl rfl) (hi.rf (o := 0) (k := 1) (d := 3) rfl rfl) (Vw.mask [false] (s_callV (As := []) dX10_round_4 rfl lvX10_241 ⟨Nat.le_of_ble_eq_true rfl, Nat.le_of_ble_eq_true rfl⟩ (hi.sh rfl rfl) ⟨_, _, by decide, rfl⟩ rfl (Nat.le_of_ble_eq_true rfl) (K))))
theorem bX10_round_7 {G : GX} {h : mH} {Q : mO → mH → Prop} {vs0 : Int32} (hi : Iv h) (K : Q (.inl (some (.int vs0))) h) : Vw G jX10_round 7 [none] [.int vs0] h Q :=
  s_ireturn dX10_round_7 rfl K
theorem eX10_round {G : GX} {h : mH} {Q : mO → mH → Prop} (hi : Iv h) (K : WM G jX2_ticksRound [.ref 3] h (Aft G jX10_round 4 [none] [] Q)) : WM G jX10_round [.ref 0] h Q :=
  WM.body (ls := [some (.ref 0)]) rfl (by decide +kernel) rfl (Nat.le_of_ble_eq_true rfl) rfl ((bX10_round_0 hi  K))
theorem dX10_off_0 : decode cX10_off 0 = .ok (.aload_n 0, 1) := by decide +kernel
theorem dX10_off_1 : decode cX10_off 1 = .ok (.getfield 19, 3) := by decide +kernel
theorem dX10_off_4 : decode cX10_off 4 = .ok (.invokevirtual 241, 3) := by decide +kernel
theorem dX10_off_7 : decode cX10_off 7 = .ok (.istore_n 1, 1) := by decide +kernel
theorem dX10_off_8 : decode cX10_off 8 = .ok (.aload_n 0, 1) := by decide +kernel
theorem dX10_off_9 : decode cX10_off 9 = .ok (.getfield 19, 3) := by decide +kernel
theorem dX10_off_12 : decode cX10_off 12 = .ok (.iload_n 1, 1) := by decide +kernel
theorem dX10_off_13 : decode cX10_off 13 = .ok (.iconst 0, 1) := by decide +kernel
theorem dX10_off_14 : decode cX10_off 14 = .ok (.invokevirtual 244, 3) := by decide +kernel
theorem dX10_off_17 : decode cX10_off 17 = .ok (.aload_n 0, 1) := by decide +kernel
theorem dX10_off_18 : decode cX10_off 18 = .ok (.getfield 19, 3) := by decide +kernel
theorem dX10_off_21 : decode cX10_off 21 = .ok (.iconst 0, 1) := by decide +kernel
theorem dX10_off_22 : decode cX10_off 22 = .ok (.iconst 0, 1) := by decide +kernel
theorem dX10_off_23 : decode cX10_off 23 = .ok (.invokevirtual 244, 3) := by decide +kernel
theorem dX10_off_26 : decode cX10_off 26 = .ok (.isub, 1) := by decide +kernel
theorem dX10_off_27 : decode cX10_off 27 = .ok (.invokestatic 247, 3) := by decide +kernel
theorem dX10_off_30 : decode cX10_off 30 = .ok (.aload_n 0, 1) := by decide +kernel
theorem dX10_off_31 : decode cX10_off 31 = .ok (.getfield 19, 3) := by decide +kernel
theorem dX10_off_34 : decode cX10_off 34 = .ok (.iload_n 1, 1) := by decide +kernel
theorem dX10_off_35 : decode cX10_off 35 = .ok (.iconst 1, 1) := by decide +kernel
theorem dX10_off_36 : decode cX10_off 36 = .ok (.invokevirtual 244, 3) := by decide +kernel
theorem dX10_off_39 : decode cX10_off 39 = .ok (.aload_n 0, 1) := by decide +kernel
theorem dX10_off_40 : decode cX10_off 40 = .ok (.getfield 19, 3) := by decide +kernel
theorem dX10_off_43 : decode cX10_off 43 = .ok (.iconst 0, 1) := by decide +kernel
theorem dX10_off_44 : decode cX10_off 44 = .ok (.iconst 1, 1) := by decide +kernel
theorem dX10_off_45 : decode cX10_off 45 = .ok (.invokevirtual 244, 3) := by decide +kernel
theorem dX10_off_48 : decode cX10_off 48 = .ok (.isub, 1) := by decide +kernel
theorem dX10_off_49 : decode cX10_off 49 = .ok (.invokestatic 247, 3) := by decide +kernel
theorem dX10_off_52 : decode cX10_off 52 = .ok (.iadd, 1) := by decide +kernel
theorem dX10_off_53 : decode cX10_off 53 = .ok (.ireturn, 1) := by decide +kernel
theorem bX10_off_0 {G : GX} {h : mH} {Q : mO → mH → Prop} (hi : Iv h) (K : WM G jX2_ticksRound [.ref 3] h (Aft G jX10_off 4 [some (.ref 0), none] [] Q)) : Vw G jX10_off 0 [some (.ref 0), none] [] h Q :=
  s_aload_n dX10_off_0 rfl (s_getR (v := .ref 3) dX10_off_1 flX10_19 rfl (hi.sh rfl rfl) (hi.rf (o := 0) (k := 1) (d := 3) rfl rfl) (s_callV (As := []) dX10_off_4 rfl lvX10_241 ⟨Nat.le_of_ble_eq_true rfl, Nat.le_of_ble_eq_true rfl⟩ (hi.sh rfl rfl) ⟨_, _, by decide, rfl⟩ rfl (Nat.le_of_ble_eq_true rfl) (K)))
theorem bX10_off_7 {G : GX} {h : mH} {Q : mO → mH → Prop} {vs0 : Int32} (hi : Iv h) (K : WM G jX2_swungTo [.ref 3, .int vs0, .int 0] h (Aft G jX10_off 14 [some (.ref 0), some (.int vs0)] [] Q)) : Vw G jX10_off 7 [some (.ref 0), none] [.int vs0] h Q :=
  s_istore_n dX10_off_7 (Nat.le_of_ble_eq_true rfl) rfl (s_aload_n dX10_off_8 rfl (s_getR (v := .ref 3) dX10_off_9 flX10_19 rfl (hi.sh rfl rfl) (hi.rf (o := 0) (k := 1) (d := 3) rfl rfl) (s_iload_n dX10_off_12 rfl (s_iconst 0 dX10_off_13 (by decide) (s_callV (As := [.int vs0, .int 0]) dX10_off_14 rfl lvX10_244 ⟨Nat.le_of_ble_eq_true rfl, Nat.le_of_ble_eq_true rfl⟩ (hi.sh rfl rfl) ⟨_, _, by decide, rfl⟩ rfl (Nat.le_of_ble_eq_true rfl) (K))))))
theorem bX10_off_17 {G : GX} {h : mH} {Q : mO → mH → Prop} {v1 : Int32} {vs0 : Int32} (hi : Iv h) (K : WM G jX2_swungTo [.ref 3, .int 0, .int 0] h (Aft G jX10_off 23 [some (.ref 0), some (.int v1)] [.int vs0] Q)) : Vw G jX10_off 17 [some (.ref 0), some (.int v1)] [.int vs0] h Q :=
  s_aload_n dX10_off_17 rfl (s_getR (v := .ref 3) dX10_off_18 flX10_19 rfl (hi.sh rfl rfl) (hi.rf (o := 0) (k := 1) (d := 3) rfl rfl) (s_iconst 0 dX10_off_21 (by decide) (s_iconst 0 dX10_off_22 (by decide) (s_callV (As := [.int 0, .int 0]) dX10_off_23 rfl lvX10_244 ⟨Nat.le_of_ble_eq_true rfl, Nat.le_of_ble_eq_true rfl⟩ (hi.sh rfl rfl) ⟨_, _, by decide, rfl⟩ rfl (Nat.le_of_ble_eq_true rfl) (K)))))
theorem bX10_off_26 {G : GX} {h : mH} {Q : mO → mH → Prop} {v1 : Int32} {vs0 : Int32} {vs1 : Int32} (hi : Iv h) (K : WM G jX2_swungTo [.ref 3, .int v1, .int 1] h (Aft G jX10_off 36 [some (.ref 0), none] [.int (fJ9_abs_0f7a4 (vs1 - vs0))] Q)) : Vw G jX10_off 26 [some (.ref 0), some (.int v1)] [.int vs0, .int vs1] h Q :=
  s_isub dX10_off_26 (s_callS (As := [.int (vs1 - vs0)]) dX10_off_27 rfl lsX10_247 ⟨Nat.le_of_ble_eq_true rfl, Nat.le_of_ble_eq_true rfl⟩ rfl (Nat.le_of_ble_eq_true rfl) (mJ9_abs_0f7a4   (s_aload_n dX10_off_30 rfl (s_getR (v := .ref 3) dX10_off_31 flX10_19 rfl (hi.sh rfl rfl) (hi.rf (o := 0) (k := 1) (d := 3) rfl rfl) (s_iload_n dX10_off_34 rfl (s_iconst 1 dX10_off_35 (by decide) (Vw.mask [true, false] (s_callV (As := [.int v1, .int 1]) dX10_off_36 rfl lvX10_244 ⟨Nat.le_of_ble_eq_true rfl, Nat.le_of_ble_eq_true rfl⟩ (hi.sh rfl rfl) ⟨_, _, by decide, rfl⟩ rfl (Nat.le_of_ble_eq_true rfl) (K)))))))))
theorem bX10_off_39 {G : GX} {h : mH} {Q : mO → mH → Prop} {vs0 : Int32} {vs1 : Int32} (hi : Iv h) (K : WM G jX2_swungTo [.ref 3, .int 0, .int 1] h (Aft G jX10_off 45 [none, none] [.int vs0, .int vs1] Q)) : Vw G jX10_off 39 [some (.ref 0), none] [.int vs0, .int vs1] h Q :=
  s_aload_n dX10_off_39 rfl (s_getR (v := .ref 3) dX10_off_40 flX10_19 rfl (hi.sh rfl rfl) (hi.rf (o := 0) (k := 1) (d := 3) rfl rfl) (s_iconst 0 dX10_off_43 (by decide) (s_iconst 1 dX10_off_44 (by decide) (Vw.mask [false, false] (s_callV (As := [.int 0, .int 1]) dX10_off_45 rfl lvX10_244 ⟨Nat.le_of_ble_eq_true rfl, Nat.le_of_ble_eq_true rfl⟩ (hi.sh rfl rfl) ⟨_, _, by decide, rfl⟩ rfl (Nat.le_of_ble_eq_true rfl) (K))))))
theorem bX10_off_48 {G : GX} {h : mH} {Q : mO → mH → Prop} {vs0 : Int32} {vs1 : Int32} {vs2 : Int32} (hi : Iv h) (K : Q (.inl (some (.int (vs2 + (fJ9_abs_0f7a4 (vs1 - vs0)))))) h) : Vw G jX10_off 48 [none, none] [.int vs0, .int vs1, .int vs2] h Q :=
  s_isub dX10_off_48 (s_callS (As := [.int (vs1 - vs0)]) dX10_off_49 rfl lsX10_247 ⟨Nat.le_of_ble_eq_true rfl, Nat.le_of_ble_eq_true rfl⟩ rfl (Nat.le_of_ble_eq_true rfl) (mJ9_abs_0f7a4   (s_iadd dX10_off_52 (s_ireturn dX10_off_53 rfl K))))
theorem eX10_off {G : GX} {h : mH} {Q : mO → mH → Prop} (hi : Iv h) (K : WM G jX2_ticksRound [.ref 3] h (Aft G jX10_off 4 [some (.ref 0), none] [] Q)) : WM G jX10_off [.ref 0] h Q :=
  WM.body (ls := [some (.ref 0), none]) rfl (by decide +kernel) rfl (Nat.le_of_ble_eq_true rfl) rfl ((bX10_off_0 hi  K))
theorem dX10_keep_0 : decode cX10_keep 0 = .ok (.aload_n 0, 1) := by decide +kernel
theorem dX10_keep_1 : decode cX10_keep 1 = .ok (.getfield 32, 3) := by decide +kernel
theorem dX10_keep_4 : decode cX10_keep 4 = .ok (.getfield 178, 3) := by decide +kernel
theorem dX10_keep_7 : decode cX10_keep 7 = .ok (.bipush 8, 2) := by decide +kernel
theorem dX10_keep_9 : decode cX10_keep 9 = .ok (.if_icmp .lt 9, 3) := by decide +kernel
theorem dX10_keep_12 : decode cX10_keep 12 = .ok (.aload_n 0, 1) := by decide +kernel
theorem dX10_keep_13 : decode cX10_keep 13 = .ok (.iconst 2, 1) := by decide +kernel
theorem dX10_keep_14 : decode cX10_keep 14 = .ok (.invokevirtual 209, 3) := by decide +kernel
theorem dX10_keep_17 : decode cX10_keep 17 = .ok (.ireturn, 1) := by decide +kernel
theorem dX10_keep_18 : decode cX10_keep 18 = .ok (.aload_n 0, 1) := by decide +kernel
theorem dX10_keep_19 : decode cX10_keep 19 = .ok (.getfield 32, 3) := by decide +kernel
theorem dX10_keep_22 : decode cX10_keep 22 = .ok (.getfield 178, 3) := by decide +kernel
theorem dX10_keep_25 : decode cX10_keep 25 = .ok (.istore_n 1, 1) := by decide +kernel
theorem dX10_keep_26 : decode cX10_keep 26 = .ok (.aload_n 0, 1) := by decide +kernel
theorem dX10_keep_27 : decode cX10_keep 27 = .ok (.getfield 19, 3) := by decide +kernel
theorem dX10_keep_30 : decode cX10_keep 30 = .ok (.getfield 196, 3) := by decide +kernel
theorem dX10_keep_33 : decode cX10_keep 33 = .ok (.iconst 0, 1) := by decide +kernel
theorem dX10_keep_34 : decode cX10_keep 34 = .ok (.aload_n 0, 1) := by decide +kernel
theorem dX10_keep_35 : decode cX10_keep 35 = .ok (.getfield 32, 3) := by decide +kernel
theorem dX10_keep_38 : decode cX10_keep 38 = .ok (.getfield 252, 3) := by decide +kernel
theorem dX10_keep_41 : decode cX10_keep 41 = .ok (.bipush 12, 2) := by decide +kernel
theorem dX10_keep_43 : decode cX10_keep 43 = .ok (.iload_n 1, 1) := by decide +kernel
theorem dX10_keep_44 : decode cX10_keep 44 = .ok (.imul, 1) := by decide +kernel
theorem dX10_keep_45 : decode cX10_keep 45 = .ok (.bipush 12, 2) := by decide +kernel
theorem dX10_keep_47 : decode cX10_keep 47 = .ok (.invokestatic 255, 3) := by decide +kernel
theorem dX10_keep_50 : decode cX10_keep 50 = .ok (.aload_n 0, 1) := by decide +kernel
theorem dX10_keep_51 : decode cX10_keep 51 = .ok (.getfield 32, 3) := by decide +kernel
theorem dX10_keep_54 : decode cX10_keep 54 = .ok (.iload_n 1, 1) := by decide +kernel
theorem dX10_keep_55 : decode cX10_keep 55 = .ok (.iconst 1, 1) := by decide +kernel
theorem dX10_keep_56 : decode cX10_keep 56 = .ok (.iadd, 1) := by decide +kernel
theorem dX10_keep_57 : decode cX10_keep 57 = .ok (.putfield 178, 3) := by decide +kernel
theorem dX10_keep_60 : decode cX10_keep 60 = .ok (.iload_n 1, 1) := by decide +kernel
theorem dX10_keep_61 : decode cX10_keep 61 = .ok (.ireturn, 1) := by decide +kernel
theorem bX10_keep_0 {G : GX} {h : mH} {Q : mO → mH → Prop} (hi : Iv h) (K : ((gI h 33 1) < 8 → (¬ (12 * (gI h 33 1)) < 0 ∧ (Int32.toNatClampNeg (12 * (gI h 33 1))) + 12 ≤ 96 ∧ Q (.inl (some (.int (gI h 33 1)))) (pI (pA h 35 (va_cpy (gI h 7) (gI h 35) 0 (Int32.toNatClampNeg (12 * (gI h 33 1))) 12)) 33 1 ((gI h 33 1) + 1)))) ∧ (¬ (gI h 33 1) < 8 → WM G jX10_refuse [.ref 0, .int 2] h (Aft G jX10_keep 14 [none, none] [] Q))) : Vw G jX10_keep 0 [some (.ref 0), none] [] h Q :=
  s_aload_n dX10_keep_0 rfl (s_getR (v := .ref 33) dX10_keep_1 flX10_32 rfl (hi.sh rfl rfl) (hi.rf (o := 0) (k := 4) (d := 33) rfl rfl) (s_getI dX10_keep_4 flX10_178 (Or.inl rfl) (hi.sh rfl rfl) (s_bipush 8 dX10_keep_7 (by decide) (s_icmp_lt 18 dX10_keep_9 rfl (fun q4 => s_aload_n dX10_keep_18 rfl (s_getR (v := .ref 33) dX10_keep_19 flX10_32 rfl (hi.sh rfl rfl) (hi.rf (o := 0) (k := 4) (d := 33) rfl rfl) (s_getI dX10_keep_22 flX10_178 (Or.inl rfl) (hi.sh rfl rfl) (s_istore_n dX10_keep_25 (Nat.le_of_ble_eq_true rfl) rfl (s_aload_n dX10_keep_26 rfl (s_getR (v := .ref 3) dX10_keep_27 flX10_19 rfl (hi.sh rfl rfl) (hi.rf (o := 0) (k := 1) (d := 3) rfl rfl) (s_getR (v := .ref 7) dX10_keep_30 flX10_196 rfl (hi.sh rfl rfl) (hi.rf (o := 3) (k := 3) (d := 4) rfl rfl) (s_iconst 0 dX10_keep_33 (by decide) (s_aload_n dX10_keep_34 rfl (s_getR (v := .ref 33) dX10_keep_35 flX10_32 rfl (hi.sh rfl rfl) (hi.rf (o := 0) (k := 4) (d := 33) rfl rfl) (s_getR (v := .ref 35) dX10_keep_38 flX10_252 rfl (hi.sh rfl rfl) (hi.rf (o := 33) (k := 2) (d := 2) rfl rfl) (s_bipush 12 dX10_keep_41 (by decide) (s_iload_n dX10_keep_43 rfl (s_imul dX10_keep_44 (s_bipush 12 dX10_keep_45 (by decide) (s_acopy dX10_keep_47 w_570 w_572 w_571 w_116 (hi.sh rfl rfl) (hi.sh rfl rfl) (by decide) (K.1 q4).1 (by decide) (by decide) (K.1 q4).2.1 (Nat.le_of_ble_eq_true rfl) (by decide +kernel) (s_aload_n dX10_keep_50 rfl (s_getR (v := .ref 33) dX10_keep_51 flX10_32 rfl (hi.sh rfl rfl) (hi.rf (o := 0) (k := 4) (d := 33) rfl rfl) (s_iload_n dX10_keep_54 rfl (s_iconst 1 dX10_keep_55 (by decide) (s_iadd dX10_keep_56 (s_putI dX10_keep_57 flX10_178 ff3_1 rfl (hi.sh rfl rfl) (s_iload_n dX10_keep_60 rfl (s_ireturn dX10_keep_61 rfl (K.1 q4).2.2)))))))))))))))))))))))) (fun q4 => s_aload_n dX10_keep_12 rfl (s_iconst 2 dX10_keep_13 (by decide) (Vw.mask [false, false] (s_callV (As := [.int 2]) dX10_keep_14 rfl lvX10_209 ⟨Nat.le_of_ble_eq_true rfl, Nat.le_of_ble_eq_true rfl⟩ (hi.sh rfl rfl) ⟨_, _, by decide, rfl⟩ rfl (Nat.le_of_ble_eq_true rfl) ((K.2 q4))))))))))
theorem bX10_keep_17 {G : GX} {h : mH} {Q : mO → mH → Prop} {vs0 : Int32} (hi : Iv h) (K : Q (.inl (some (.int vs0))) h) : Vw G jX10_keep 17 [none, none] [.int vs0] h Q :=
  s_ireturn dX10_keep_17 rfl K
theorem eX10_keep {G : GX} {h : mH} {Q : mO → mH → Prop} (hi : Iv h) (K : ((gI h 33 1) < 8 → (¬ (12 * (gI h 33 1)) < 0 ∧ (Int32.toNatClampNeg (12 * (gI h 33 1))) + 12 ≤ 96 ∧ Q (.inl (some (.int (gI h 33 1)))) (pI (pA h 35 (va_cpy (gI h 7) (gI h 35) 0 (Int32.toNatClampNeg (12 * (gI h 33 1))) 12)) 33 1 ((gI h 33 1) + 1)))) ∧ (¬ (gI h 33 1) < 8 → WM G jX10_refuse [.ref 0, .int 2] h (Aft G jX10_keep 14 [none, none] [] Q))) : WM G jX10_keep [.ref 0] h Q :=
  WM.body (ls := [some (.ref 0), none]) rfl (by decide +kernel) rfl (Nat.le_of_ble_eq_true rfl) rfl ((bX10_keep_0 hi  K))
theorem dX10_needPortrait_0 : decode cX10_needPortrait 0 = .ok (.iload_n 1, 1) := by decide +kernel
theorem dX10_needPortrait_1 : decode cX10_needPortrait 1 = .ok (.ifCond .lt 14, 3) := by decide +kernel
theorem dX10_needPortrait_4 : decode cX10_needPortrait 4 = .ok (.iload_n 1, 1) := by decide +kernel
theorem dX10_needPortrait_5 : decode cX10_needPortrait 5 = .ok (.aload_n 0, 1) := by decide +kernel
theorem dX10_needPortrait_6 : decode cX10_needPortrait 6 = .ok (.getfield 32, 3) := by decide +kernel
theorem dX10_needPortrait_9 : decode cX10_needPortrait 9 = .ok (.getfield 178, 3) := by decide +kernel
theorem dX10_needPortrait_12 : decode cX10_needPortrait 12 = .ok (.if_icmp .lt 14, 3) := by decide +kernel
theorem dX10_needPortrait_15 : decode cX10_needPortrait 15 = .ok (.new 342, 3) := by decide +kernel
theorem dX10_needPortrait_18 : decode cX10_needPortrait 18 = .ok (.dup, 1) := by decide +kernel
theorem dX10_needPortrait_19 : decode cX10_needPortrait 19 = .ok (.ldc_w 377, 3) := by decide +kernel
theorem dX10_needPortrait_22 : decode cX10_needPortrait 22 = .ok (.invokespecial 346, 3) := by decide +kernel
theorem dX10_needPortrait_25 : decode cX10_needPortrait 25 = .ok (.athrow, 1) := by decide +kernel
theorem dX10_needPortrait_26 : decode cX10_needPortrait 26 = .ok (.return_, 1) := by decide +kernel
theorem bX10_needPortrait_0 {G : GX} {h : mH} {Q : mO → mH → Prop} {v1 : Int32} (hi : Iv h) (K : (v1 < 0 → Vw G jX10_needPortrait 15 [none, none] [] h Q) ∧ (¬ v1 < 0 → ((v1 < (gI h 33 1) → Q (.inl none) h) ∧ (¬ v1 < (gI h 33 1) → Vw G jX10_needPortrait 15 [none, none] [] h Q)))) : Vw G jX10_needPortrait 0 [some (.ref 0), some (.int v1)] [] h Q :=
  s_iload_n dX10_needPortrait_0 rfl (s_if_lt 15 dX10_needPortrait_1 rfl (fun q1 => Vw.mask [false, false] ((K.1 q1))) (fun q1 => s_iload_n dX10_needPortrait_4 rfl (s_aload_n dX10_needPortrait_5 rfl (s_getR (v := .ref 33) dX10_needPortrait_6 flX10_32 rfl (hi.sh rfl rfl) (hi.rf (o := 0) (k := 4) (d := 33) rfl rfl) (s_getI dX10_needPortrait_9 flX10_178 (Or.inl rfl) (hi.sh rfl rfl) (s_icmp_lt 26 dX10_needPortrait_12 rfl (fun q6 => s_return dX10_needPortrait_26 rfl ((K.2 q1).1 q6)) (fun q6 => Vw.mask [false, false] (((K.2 q1).2 q6)))))))))
theorem bX10_needPortrait_15 {G : GX} {h : mH} {Q : mO → mH → Prop} (hi : Iv h) (K : (h.1.length + 1 ≤ NC ∧ sl h + 6 ≤ NS) ∧ Q (.inr "java/util/NoSuchElementException") h ∧ ∀ n, n ≤ 6 → Q (.inr "java/util/NoSuchElementException") (aN h 200 n)) : Vw G jX10_needPortrait 15 [none, none] [] h Q :=
  s_throw dX10_needPortrait_15 dX10_needPortrait_18 dX10_needPortrait_19 dX10_needPortrait_22 dX10_needPortrait_25 rfl ktX10_377 (Nat.le_of_ble_eq_true rfl) (Nat.le_of_ble_eq_true rfl) K.1.1 K.1.2 K.2.1 K.2.2
theorem eX10_needPortrait {G : GX} {h : mH} {Q : mO → mH → Prop} {v1 : Int32} (hi : Iv h) (K : (v1 < 0 → Vw G jX10_needPortrait 15 [none, none] [] h Q) ∧ (¬ v1 < 0 → ((v1 < (gI h 33 1) → Q (.inl none) h) ∧ (¬ v1 < (gI h 33 1) → Vw G jX10_needPortrait 15 [none, none] [] h Q)))) : WM G jX10_needPortrait [.ref 0, .int v1] h Q :=
  WM.body (ls := [some (.ref 0), some (.int v1)]) rfl (by decide +kernel) rfl (Nat.le_of_ble_eq_true rfl) rfl ((bX10_needPortrait_0 hi  K))
theorem dX10_takeInto_0 : decode cX10_takeInto 0 = .ok (.aload_n 0, 1) := by decide +kernel
theorem dX10_takeInto_1 : decode cX10_takeInto 1 = .ok (.getfield 32, 3) := by decide +kernel
theorem dX10_takeInto_4 : decode cX10_takeInto 4 = .ok (.getfield 252, 3) := by decide +kernel
theorem dX10_takeInto_7 : decode cX10_takeInto 7 = .ok (.bipush 12, 2) := by decide +kernel
theorem dX10_takeInto_9 : decode cX10_takeInto 9 = .ok (.iload_n 1, 1) := by decide +kernel
theorem dX10_takeInto_10 : decode cX10_takeInto 10 = .ok (.imul, 1) := by decide +kernel
theorem dX10_takeInto_11 : decode cX10_takeInto 11 = .ok (.aload_n 2, 1) := by decide +kernel
theorem dX10_takeInto_12 : decode cX10_takeInto 12 = .ok (.getfield 196, 3) := by decide +kernel
theorem dX10_takeInto_15 : decode cX10_takeInto 15 = .ok (.iconst 0, 1) := by decide +kernel
theorem dX10_takeInto_16 : decode cX10_takeInto 16 = .ok (.bipush 12, 2) := by decide +kernel
theorem dX10_takeInto_18 : decode cX10_takeInto 18 = .ok (.invokestatic 255, 3) := by decide +kernel
theorem dX10_takeInto_21 : decode cX10_takeInto 21 = .ok (.return_, 1) := by decide +kernel
theorem bX10_takeInto_0 {G : GX} {h : mH} {Q : mO → mH → Prop} {v1 : Int32} {r2 : Nat} (hi : Iv h) (k2 : kd r2 = (2, 11)) (K : ¬ (12 * v1) < 0 ∧ (Int32.toNatClampNeg (12 * v1)) + 12 ≤ 96 ∧ Q (.inl none) (pA h (r2 + 4) (va_cpy (gI h 35) (gI h (r2 + 4)) (Int32.toNatClampNeg (12 * v1)) 0 12))) : Vw G jX10_takeInto 0 [some (.ref 0), some (.int v1), some (.ref r2)] [] h Q :=
  s_aload_n dX10_takeInto_0 rfl (s_getR (v := .ref 33) dX10_takeInto_1 flX10_32 rfl (hi.sh rfl rfl) (hi.rf (o := 0) (k := 4) (d := 33) rfl rfl) (s_getR (v := .ref 35) dX10_takeInto_4 flX10_252 rfl (hi.sh rfl rfl) (hi.rf (o := 33) (k := 2) (d := 2) rfl rfl) (s_bipush 12 dX10_takeInto_7 (by decide) (s_iload_n dX10_takeInto_9 rfl (s_imul dX10_takeInto_10 (s_aload_n dX10_takeInto_11 rfl (s_getR (v := .ref (r2 + 4)) dX10_takeInto_12 flX10_196 rfl (hi.sh k2 rfl) (hi.rf (o := r2) (k := 3) (d := 4) k2 rfl) (s_iconst 0 dX10_takeInto_15 (by decide) (s_bipush 12 dX10_takeInto_16 (by decide) (s_acopy dX10_takeInto_18 w_570 w_572 w_571 w_116 (hi.sh rfl rfl) (hi.sh (kd2_3 k2) rfl) K.1 (by decide) (by decide) K.2.1 (by decide) (Nat.le_of_ble_eq_true rfl) (by decide +kernel) (s_return dX10_takeInto_21 rfl K.2.2)))))))))))
theorem eX10_takeInto {G : GX} {h : mH} {Q : mO → mH → Prop} {v1 : Int32} {r2 : Nat} (hi : Iv h) (k2 : kd r2 = (2, 11)) (K : ¬ (12 * v1) < 0 ∧ (Int32.toNatClampNeg (12 * v1)) + 12 ≤ 96 ∧ Q (.inl none) (pA h (r2 + 4) (va_cpy (gI h 35) (gI h (r2 + 4)) (Int32.toNatClampNeg (12 * v1)) 0 12))) : WM G jX10_takeInto [.ref 0, .int v1, .ref r2] h Q :=
  WM.body (ls := [some (.ref 0), some (.int v1), some (.ref r2)]) rfl (by decide +kernel) rfl (Nat.le_of_ble_eq_true rfl) rfl ((bX10_takeInto_0 hi k2 K))
theorem dX10_take_0 : decode cX10_take 0 = .ok (.aload_n 0, 1) := by decide +kernel
theorem dX10_take_1 : decode cX10_take 1 = .ok (.iload_n 1, 1) := by decide +kernel
theorem dX10_take_2 : decode cX10_take 2 = .ok (.invokevirtual 261, 3) := by decide +kernel
theorem dX10_take_5 : decode cX10_take 5 = .ok (.aload_n 0, 1) := by decide +kernel
theorem dX10_take_6 : decode cX10_take 6 = .ok (.iload_n 1, 1) := by decide +kernel
theorem dX10_take_7 : decode cX10_take 7 = .ok (.aload_n 0, 1) := by decide +kernel
theorem dX10_take_8 : decode cX10_take 8 = .ok (.getfield 19, 3) := by decide +kernel
theorem dX10_take_11 : decode cX10_take 11 = .ok (.invokevirtual 264, 3) := by decide +kernel
theorem dX10_take_14 : decode cX10_take 14 = .ok (.aload_n 0, 1) := by decide +kernel
theorem dX10_take_15 : decode cX10_take 15 = .ok (.dup, 1) := by decide +kernel
theorem dX10_take_16 : decode cX10_take 16 = .ok (.getfield 95, 3) := by decide +kernel
theorem dX10_take_19 : decode cX10_take 19 = .ok (.iconst 1, 1) := by decide +kernel
theorem dX10_take_20 : decode cX10_take 20 = .ok (.iadd, 1) := by decide +kernel
theorem dX10_take_21 : decode cX10_take 21 = .ok (.putfield 95, 3) := by decide +kernel
theorem dX10_take_24 : decode cX10_take 24 = .ok (.return_, 1) := by decide +kernel
theorem bX10_take_0 {G : GX} {h : mH} {Q : mO → mH → Prop} {v1 : Int32} (hi : Iv h) (K : WM G jX10_needPortrait [.ref 0, .int v1] h (Aft G jX10_take 2 [some (.ref 0), some (.int v1)] [] Q)) : Vw G jX10_take 0 [some (.ref 0), some (.int v1)] [] h Q :=
  s_aload_n dX10_take_0 rfl (s_iload_n dX10_take_1 rfl (s_callV (As := [.int v1]) dX10_take_2 rfl lvX10_261 ⟨Nat.le_of_ble_eq_true rfl, Nat.le_of_ble_eq_true rfl⟩ (hi.sh rfl rfl) ⟨_, _, by decide, rfl⟩ rfl (Nat.le_of_ble_eq_true rfl) (K)))
theorem bX10_take_5 {G : GX} {h : mH} {Q : mO → mH → Prop} {v1 : Int32} (hi : Iv h) (K : WM G jX10_takeInto [.ref 0, .int v1, .ref 3] h (Aft G jX10_take 11 [some (.ref 0), none] [] Q)) : Vw G jX10_take 5 [some (.ref 0), some (.int v1)] [] h Q :=
  s_aload_n dX10_take_5 rfl (s_iload_n dX10_take_6 rfl (s_aload_n dX10_take_7 rfl (s_getR (v := .ref 3) dX10_take_8 flX10_19 rfl (hi.sh rfl rfl) (hi.rf (o := 0) (k := 1) (d := 3) rfl rfl) (Vw.mask [true, false] (s_callV (As := [.int v1, .ref 3]) dX10_take_11 rfl lvX10_264 ⟨Nat.le_of_ble_eq_true rfl, Nat.le_of_ble_eq_true rfl⟩ (hi.sh rfl rfl) ⟨_, _, by decide, rfl⟩ rfl (Nat.le_of_ble_eq_true rfl) (K))))))
theorem bX10_take_14 {G : GX} {h : mH} {Q : mO → mH → Prop} (hi : Iv h) (K : Q (.inl none) (pI h 0 16 ((gI h 0 16) + 1))) : Vw G jX10_take 14 [some (.ref 0), none] [] h Q :=
  s_aload_n dX10_take_14 rfl (s_dupr dX10_take_15 (s_getI dX10_take_16 flX10_95 (Or.inl rfl) (hi.sh rfl rfl) (s_iconst 1 dX10_take_19 (by decide) (s_iadd dX10_take_20 (s_putI dX10_take_21 flX10_95 ff9_16 rfl (hi.sh rfl rfl) (s_return dX10_take_24 rfl K))))))
theorem eX10_take {G : GX} {h : mH} {Q : mO → mH → Prop} {v1 : Int32} (hi : Iv h) (K : WM G jX10_needPortrait [.ref 0, .int v1] h (Aft G jX10_take 2 [some (.ref 0), some (.int v1)] [] Q)) : WM G jX10_take [.ref 0, .int v1] h Q :=
  WM.body (ls := [some (.ref 0), some (.int v1)]) rfl (by decide +kernel) rfl (Nat.le_of_ble_eq_true rfl) rfl ((bX10_take_0 hi  K))
theorem dX10_copyWith_0 : decode cX10_copyWith 0 = .ok (.aload_n 2, 1) := by decide +kernel
theorem dX10_copyWith_1 : decode cX10_copyWith 1 = .ok (.aload_n 0, 1) := by decide +kernel
theorem dX10_copyWith_2 : decode cX10_copyWith 2 = .ok (.getfield 19, 3) := by decide +kernel
theorem dX10_copyWith_5 : decode cX10_copyWith 5 = .ok (.invokevirtual 122, 3) := by decide +kernel
theorem dX10_copyWith_8 : decode cX10_copyWith 8 = .ok (.aload_n 0, 1) := by decide +kernel
theorem dX10_copyWith_9 : decode cX10_copyWith 9 = .ok (.iload_n 1, 1) := by decide +kernel
theorem dX10_copyWith_10 : decode cX10_copyWith 10 = .ok (.aload_n 2, 1) := by decide +kernel
theorem dX10_copyWith_11 : decode cX10_copyWith 11 = .ok (.invokevirtual 264, 3) := by decide +kernel
theorem dX10_copyWith_14 : decode cX10_copyWith 14 = .ok (.return_, 1) := by decide +kernel
theorem bX10_copyWith_0 {G : GX} {h : mH} {Q : mO → mH → Prop} {v1 : Int32} {r2 : Nat} (hi : Iv h) (k2 : kd r2 = (2, 11)) (K : WM G jX2_copy [.ref r2, .ref 3] h (Aft G jX10_copyWith 5 [some (.ref 0), some (.int v1), some (.ref r2)] [] Q)) : Vw G jX10_copyWith 0 [some (.ref 0), some (.int v1), some (.ref r2)] [] h Q :=
  s_aload_n dX10_copyWith_0 rfl (s_aload_n dX10_copyWith_1 rfl (s_getR (v := .ref 3) dX10_copyWith_2 flX10_19 rfl (hi.sh rfl rfl) (hi.rf (o := 0) (k := 1) (d := 3) rfl rfl) (s_callV (As := [.ref 3]) dX10_copyWith_5 rfl lvX10_122 ⟨Nat.le_of_ble_eq_true rfl, Nat.le_of_ble_eq_true rfl⟩ (hi.sh k2 rfl) ⟨_, _, by decide, rfl⟩ rfl (Nat.le_of_ble_eq_true rfl) (K))))
theorem bX10_copyWith_8 {G : GX} {h : mH} {Q : mO → mH → Prop} {v1 : Int32} {r2 : Nat} (hi : Iv h) (k2 : kd r2 = (2, 11)) (K : WM G jX10_takeInto [.ref 0, .int v1, .ref r2] h (Aft G jX10_copyWith 11 [none, none, none] [] Q)) : Vw G jX10_copyWith 8 [some (.ref 0), some (.int v1), some (.ref r2)] [] h Q :=
  s_aload_n dX10_copyWith_8 rfl (s_iload_n dX10_copyWith_9 rfl (s_aload_n dX10_copyWith_10 rfl (Vw.mask [false, false, false] (s_callV (As := [.int v1, .ref r2]) dX10_copyWith_11 rfl lvX10_264 ⟨Nat.le_of_ble_eq_true rfl, Nat.le_of_ble_eq_true rfl⟩ (hi.sh rfl rfl) ⟨_, _, by decide, rfl⟩ rfl (Nat.le_of_ble_eq_true rfl) (K)))))
theorem bX10_copyWith_14 {G : GX} {h : mH} {Q : mO → mH → Prop} (hi : Iv h) (K : Q (.inl none) h) : Vw G jX10_copyWith 14 [none, none, none] [] h Q :=
  s_return dX10_copyWith_14 rfl K
theorem eX10_copyWith {G : GX} {h : mH} {Q : mO → mH → Prop} {v1 : Int32} {r2 : Nat} (hi : Iv h) (k2 : kd r2 = (2, 11)) (K : WM G jX2_copy [.ref r2, .ref 3] h (Aft G jX10_copyWith 5 [some (.ref 0), some (.int v1), some (.ref r2)] [] Q)) : WM G jX10_copyWith [.ref 0, .int v1, .ref r2] h Q :=
  WM.body (ls := [some (.ref 0), some (.int v1), some (.ref r2)]) rfl (by decide +kernel) rfl (Nat.le_of_ble_eq_true rfl) rfl ((bX10_copyWith_0 hi k2 K))
theorem dX10_compare_0 : decode cX10_compare 0 = .ok (.aload_n 0, 1) := by decide +kernel
theorem dX10_compare_1 : decode cX10_compare 1 = .ok (.iload_n 1, 1) := by decide +kernel
theorem dX10_compare_2 : decode cX10_compare 2 = .ok (.aload_n 0, 1) := by decide +kernel
theorem dX10_compare_3 : decode cX10_compare 3 = .ok (.getfield 23, 3) := by decide +kernel
theorem dX10_compare_6 : decode cX10_compare 6 = .ok (.invokevirtual 362, 3) := by decide +kernel
theorem dX10_compare_9 : decode cX10_compare 9 = .ok (.aload_n 0, 1) := by decide +kernel
theorem dX10_compare_10 : decode cX10_compare 10 = .ok (.iload_n 2, 1) := by decide +kernel
theorem dX10_compare_11 : decode cX10_compare 11 = .ok (.aload_n 0, 1) := by decide +kernel
theorem dX10_compare_12 : decode cX10_compare 12 = .ok (.getfield 26, 3) := by decide +kernel
theorem dX10_compare_15 : decode cX10_compare 15 = .ok (.invokevirtual 362, 3) := by decide +kernel
theorem dX10_compare_18 : decode cX10_compare 18 = .ok (.aload_n 0, 1) := by decide +kernel
theorem dX10_compare_19 : decode cX10_compare 19 = .ok (.getfield 26, 3) := by decide +kernel
theorem dX10_compare_22 : decode cX10_compare 22 = .ok (.invokevirtual 241, 3) := by decide +kernel
theorem dX10_compare_25 : decode cX10_compare 25 = .ok (.sipush 5040, 3) := by decide +kernel
theorem dX10_compare_28 : decode cX10_compare 28 = .ok (.if_icmp .le 6, 3) := by decide +kernel
theorem dX10_compare_31 : decode cX10_compare 31 = .ok (.bipush (-2), 2) := by decide +kernel
theorem dX10_compare_33 : decode cX10_compare 33 = .ok (.ireturn, 1) := by decide +kernel
theorem dX10_compare_34 : decode cX10_compare 34 = .ok (.aload_n 0, 1) := by decide +kernel
theorem dX10_compare_35 : decode cX10_compare 35 = .ok (.getfield 63, 3) := by decide +kernel
theorem dX10_compare_38 : decode cX10_compare 38 = .ok (.aload_n 0, 1) := by decide +kernel
theorem dX10_compare_39 : decode cX10_compare 39 = .ok (.getfield 23, 3) := by decide +kernel
theorem dX10_compare_42 : decode cX10_compare 42 = .ok (.aload_n 0, 1) := by decide +kernel
theorem dX10_compare_43 : decode cX10_compare 43 = .ok (.getfield 26, 3) := by decide +kernel
theorem dX10_compare_46 : decode cX10_compare 46 = .ok (.invokevirtual 365, 3) := by decide +kernel
theorem dX10_compare_49 : decode cX10_compare 49 = .ok (.ifCond .eq 7, 3) := by decide +kernel
theorem dX10_compare_52 : decode cX10_compare 52 = .ok (.iconst 1, 1) := by decide +kernel
theorem dX10_compare_53 : decode cX10_compare 53 = .ok (.goto 4, 3) := by decide +kernel
theorem dX10_compare_56 : decode cX10_compare 56 = .ok (.iconst 0, 1) := by decide +kernel
theorem dX10_compare_57 : decode cX10_compare 57 = .ok (.ireturn, 1) := by decide +kernel
theorem bX10_compare_0 {G : GX} {h : mH} {Q : mO → mH → Prop} {v1 : Int32} {v2 : Int32} (hi : Iv h) (K : WM G jX10_copyWith [.ref 0, .int v1, .ref 13] h (Aft G jX10_compare 6 [some (.ref 0), none, some (.int v2)] [] Q)) : Vw G jX10_compare 0 [some (.ref 0), some (.int v1), some (.int v2)] [] h Q :=
  s_aload_n dX10_compare_0 rfl (s_iload_n dX10_compare_1 rfl (s_aload_n dX10_compare_2 rfl (s_getR (v := .ref 13) dX10_compare_3 flX10_23 rfl (hi.sh rfl rfl) (hi.rf (o := 0) (k := 2) (d := 13) rfl rfl) (Vw.mask [true, false, true] (s_callV (As := [.int v1, .ref 13]) dX10_compare_6 rfl lvX10_362 ⟨Nat.le_of_ble_eq_true rfl, Nat.le_of_ble_eq_true rfl⟩ (hi.sh rfl rfl) ⟨_, _, by decide, rfl⟩ rfl (Nat.le_of_ble_eq_true rfl) (K))))))
theorem bX10_compare_9 {G : GX} {h : mH} {Q : mO → mH → Prop} {v2 : Int32} (hi : Iv h) (K : WM G jX10_copyWith [.ref 0, .int v2, .ref 23] h (Aft G jX10_compare 15 [some (.ref 0), none, none] [] Q)) : Vw G jX10_compare 9 [some (.ref 0), none, some (.int v2)] [] h Q :=
  s_aload_n dX10_compare_9 rfl (s_iload_n dX10_compare_10 rfl (s_aload_n dX10_compare_11 rfl (s_getR (v := .ref 23) dX10_compare_12 flX10_26 rfl (hi.sh rfl rfl) (hi.rf (o := 0) (k := 3) (d := 23) rfl rfl) (Vw.mask [true, false, false] (s_callV (As := [.int v2, .ref 23]) dX10_compare_15 rfl lvX10_362 ⟨Nat.le_of_ble_eq_true rfl, Nat.le_of_ble_eq_true rfl⟩ (hi.sh rfl rfl) ⟨_, _, by decide, rfl⟩ rfl (Nat.le_of_ble_eq_true rfl) (K))))))
theorem bX10_compare_18 {G : GX} {h : mH} {Q : mO → mH → Prop} (hi : Iv h) (K : WM G jX2_ticksRound [.ref 23] h (Aft G jX10_compare 22 [some (.ref 0), none, none] [] Q)) : Vw G jX10_compare 18 [some (.ref 0), none, none] [] h Q :=
  s_aload_n dX10_compare_18 rfl (s_getR (v := .ref 23) dX10_compare_19 flX10_26 rfl (hi.sh rfl rfl) (hi.rf (o := 0) (k := 3) (d := 23) rfl rfl) (s_callV (As := []) dX10_compare_22 rfl lvX10_241 ⟨Nat.le_of_ble_eq_true rfl, Nat.le_of_ble_eq_true rfl⟩ (hi.sh rfl rfl) ⟨_, _, by decide, rfl⟩ rfl (Nat.le_of_ble_eq_true rfl) (K)))
theorem bX10_compare_25 {G : GX} {h : mH} {Q : mO → mH → Prop} {vs0 : Int32} (hi : Iv h) (K : (vs0 ≤ 5040 → WM G jX4_joins [.ref 68, .ref 13, .ref 23] h (Aft G jX10_compare 46 [none, none, none] [] Q)) ∧ (¬ vs0 ≤ 5040 → Q (.inl (some (.int (-2)))) h)) : Vw G jX10_compare 25 [some (.ref 0), none, none] [.int vs0] h Q :=
  s_sipush 5040 dX10_compare_25 (by decide) (s_icmp_le 34 dX10_compare_28 rfl (fun q1 => s_aload_n dX10_compare_34 rfl (s_getR (v := .ref 68) dX10_compare_35 flX10_63 rfl (hi.sh rfl rfl) (hi.rf (o := 0) (k := 10) (d := 68) rfl rfl) (s_aload_n dX10_compare_38 rfl (s_getR (v := .ref 13) dX10_compare_39 flX10_23 rfl (hi.sh rfl rfl) (hi.rf (o := 0) (k := 2) (d := 13) rfl rfl) (s_aload_n dX10_compare_42 rfl (s_getR (v := .ref 23) dX10_compare_43 flX10_26 rfl (hi.sh rfl rfl) (hi.rf (o := 0) (k := 3) (d := 23) rfl rfl) (Vw.mask [false, false, false] (s_callV (As := [.ref 13, .ref 23]) dX10_compare_46 rfl lvX10_365 ⟨Nat.le_of_ble_eq_true rfl, Nat.le_of_ble_eq_true rfl⟩ (hi.sh rfl rfl) ⟨_, _, by decide, rfl⟩ rfl (Nat.le_of_ble_eq_true rfl) ((K.1 q1)))))))))) (fun q1 => s_bipush (-2) dX10_compare_31 (by decide) (s_ireturn dX10_compare_33 rfl (K.2 q1))))
theorem bX10_compare_49 {G : GX} {h : mH} {Q : mO → mH → Prop} {vs0 : Int32} (hi : Iv h) (K : (vs0 = 0 → Q (.inl (some (.int 0))) h) ∧ (¬ vs0 = 0 → Q (.inl (some (.int 1))) h)) : Vw G jX10_compare 49 [none, none, none] [.int vs0] h Q :=
  s_if_eq 56 dX10_compare_49 rfl (fun q0 => s_iconst 0 dX10_compare_56 (by decide) (s_ireturn dX10_compare_57 rfl (K.1 q0))) (fun q0 => s_iconst 1 dX10_compare_52 (by decide) (s_goto 57 dX10_compare_53 rfl (s_ireturn dX10_compare_57 rfl (K.2 q0))))
theorem eX10_compare {G : GX} {h : mH} {Q : mO → mH → Prop} {v1 : Int32} {v2 : Int32} (hi : Iv h) (K : WM G jX10_copyWith [.ref 0, .int v1, .ref 13] h (Aft G jX10_compare 6 [some (.ref 0), none, some (.int v2)] [] Q)) : WM G jX10_compare [.ref 0, .int v1, .int v2] h Q :=
  WM.body (ls := [some (.ref 0), some (.int v1), some (.int v2)]) rfl (by decide +kernel) rfl (Nat.le_of_ble_eq_true rfl) rfl ((bX10_compare_0 hi  K))
theorem dX10_alike_0 : decode cX10_alike 0 = .ok (.aload_n 0, 1) := by decide +kernel
theorem dX10_alike_1 : decode cX10_alike 1 = .ok (.iload_n 1, 1) := by decide +kernel
theorem dX10_alike_2 : decode cX10_alike 2 = .ok (.invokevirtual 261, 3) := by decide +kernel
theorem dX10_alike_5 : decode cX10_alike 5 = .ok (.aload_n 0, 1) := by decide +kernel
theorem dX10_alike_6 : decode cX10_alike 6 = .ok (.iload_n 2, 1) := by decide +kernel
theorem dX10_alike_7 : decode cX10_alike 7 = .ok (.invokevirtual 261, 3) := by decide +kernel
theorem dX10_alike_10 : decode cX10_alike 10 = .ok (.aload_n 0, 1) := by decide +kernel
theorem dX10_alike_11 : decode cX10_alike 11 = .ok (.iload_n 1, 1) := by decide +kernel
theorem dX10_alike_12 : decode cX10_alike 12 = .ok (.iload_n 2, 1) := by decide +kernel
theorem dX10_alike_13 : decode cX10_alike 13 = .ok (.invokevirtual 268, 3) := by decide +kernel
theorem dX10_alike_16 : decode cX10_alike 16 = .ok (.ireturn, 1) := by decide +kernel
theorem bX10_alike_0 {G : GX} {h : mH} {Q : mO → mH → Prop} {v1 : Int32} {v2 : Int32} (hi : Iv h) (K : WM G jX10_needPortrait [.ref 0, .int v1] h (Aft G jX10_alike 2 [some (.ref 0), some (.int v1), some (.int v2)] [] Q)) : Vw G jX10_alike 0 [some (.ref 0), some (.int v1), some (.int v2)] [] h Q :=
  s_aload_n dX10_alike_0 rfl (s_iload_n dX10_alike_1 rfl (s_callV (As := [.int v1]) dX10_alike_2 rfl lvX10_261 ⟨Nat.le_of_ble_eq_true rfl, Nat.le_of_ble_eq_true rfl⟩ (hi.sh rfl rfl) ⟨_, _, by decide, rfl⟩ rfl (Nat.le_of_ble_eq_true rfl) (K)))
theorem bX10_alike_5 {G : GX} {h : mH} {Q : mO → mH → Prop} {v1 : Int32} {v2 : Int32} (hi : Iv h) (K : WM G jX10_needPortrait [.ref 0, .int v2] h (Aft G jX10_alike 7 [some (.ref 0), some (.int v1), some (.int v2)] [] Q)) : Vw G jX10_alike 5 [some (.ref 0), some (.int v1), some (.int v2)] [] h Q :=
  s_aload_n dX10_alike_5 rfl (s_iload_n dX10_alike_6 rfl (s_callV (As := [.int v2]) dX10_alike_7 rfl lvX10_261 ⟨Nat.le_of_ble_eq_true rfl, Nat.le_of_ble_eq_true rfl⟩ (hi.sh rfl rfl) ⟨_, _, by decide, rfl⟩ rfl (Nat.le_of_ble_eq_true rfl) (K)))
theorem bX10_alike_10 {G : GX} {h : mH} {Q : mO → mH → Prop} {v1 : Int32} {v2 : Int32} (hi : Iv h) (K : WM G jX10_compare [.ref 0, .int v1, .int v2] h (Aft G jX10_alike 13 [none, none, none] [] Q)) : Vw G jX10_alike 10 [some (.ref 0), some (.int v1), some (.int v2)] [] h Q :=
  s_aload_n dX10_alike_10 rfl (s_iload_n dX10_alike_11 rfl (s_iload_n dX10_alike_12 rfl (Vw.mask [false, false, false] (s_callV (As := [.int v1, .int v2]) dX10_alike_13 rfl lvX10_268 ⟨Nat.le_of_ble_eq_true rfl, Nat.le_of_ble_eq_true rfl⟩ (hi.sh rfl rfl) ⟨_, _, by decide, rfl⟩ rfl (Nat.le_of_ble_eq_true rfl) (K)))))
theorem bX10_alike_16 {G : GX} {h : mH} {Q : mO → mH → Prop} {vs0 : Int32} (hi : Iv h) (K : Q (.inl (some (.int vs0))) h) : Vw G jX10_alike 16 [none, none, none] [.int vs0] h Q :=
  s_ireturn dX10_alike_16 rfl K
theorem eX10_alike {G : GX} {h : mH} {Q : mO → mH → Prop} {v1 : Int32} {v2 : Int32} (hi : Iv h) (K : WM G jX10_needPortrait [.ref 0, .int v1] h (Aft G jX10_alike 2 [some (.ref 0), some (.int v1), some (.int v2)] [] Q)) : WM G jX10_alike [.ref 0, .int v1, .int v2] h Q :=
  WM.body (ls := [some (.ref 0), some (.int v1), some (.int v2)]) rfl (by decide +kernel) rfl (Nat.le_of_ble_eq_true rfl) rfl ((bX10_alike_0 hi  K))
theorem dX10_leastOfKind_0 : decode cX10_leastOfKind 0 = .ok (.iconst 0, 1) := by decide +kernel
theorem dX10_leastOfKind_1 : decode cX10_leastOfKind 1 = .ok (.istore_n 2, 1) := by decide +kernel
theorem dX10_leastOfKind_2 : decode cX10_leastOfKind 2 = .ok (.iload_n 2, 1) := by decide +kernel
theorem dX10_leastOfKind_3 : decode cX10_leastOfKind 3 = .ok (.iload_n 1, 1) := by decide +kernel
theorem dX10_leastOfKind_4 : decode cX10_leastOfKind 4 = .ok (.if_icmp .ge 21, 3) := by decide +kernel
theorem dX10_leastOfKind_7 : decode cX10_leastOfKind 7 = .ok (.aload_n 0, 1) := by decide +kernel
theorem dX10_leastOfKind_8 : decode cX10_leastOfKind 8 = .ok (.iload_n 2, 1) := by decide +kernel
theorem dX10_leastOfKind_9 : decode cX10_leastOfKind 9 = .ok (.iload_n 1, 1) := by decide +kernel
theorem dX10_leastOfKind_10 : decode cX10_leastOfKind 10 = .ok (.invokevirtual 268, 3) := by decide +kernel
theorem dX10_leastOfKind_13 : decode cX10_leastOfKind 13 = .ok (.iconst 1, 1) := by decide +kernel
theorem dX10_leastOfKind_14 : decode cX10_leastOfKind 14 = .ok (.if_icmp .ne 5, 3) := by decide +kernel
theorem dX10_leastOfKind_17 : decode cX10_leastOfKind 17 = .ok (.iload_n 2, 1) := by decide +kernel
theorem dX10_leastOfKind_18 : decode cX10_leastOfKind 18 = .ok (.ireturn, 1) := by decide +kernel
theorem dX10_leastOfKind_19 : decode cX10_leastOfKind 19 = .ok (.iinc 2 1, 3) := by decide +kernel
theorem dX10_leastOfKind_22 : decode cX10_leastOfKind 22 = .ok (.goto (-20), 3) := by decide +kernel
theorem dX10_leastOfKind_25 : decode cX10_leastOfKind 25 = .ok (.iload_n 1, 1) := by decide +kernel
theorem dX10_leastOfKind_26 : decode cX10_leastOfKind 26 = .ok (.ireturn, 1) := by decide +kernel
theorem bX10_leastOfKind_0 {G : GX} {h : mH} {Q : mO → mH → Prop} {v1 : Int32} (hi : Iv h) (K : Vw G jX10_leastOfKind 2 [some (.ref 0), some (.int v1), some (.int 0)] [] h Q) : Vw G jX10_leastOfKind 0 [some (.ref 0), some (.int v1), none] [] h Q :=
  s_iconst 0 dX10_leastOfKind_0 (by decide) (s_istore_n dX10_leastOfKind_1 (Nat.le_of_ble_eq_true rfl) rfl (K))
theorem bX10_leastOfKind_2 {G : GX} {h : mH} {Q : mO → mH → Prop} {v1 : Int32} {v2 : Int32} (hi : Iv h) (K : (v1 ≤ v2 → Q (.inl (some (.int v1))) h) ∧ (¬ v1 ≤ v2 → WM G jX10_compare [.ref 0, .int v2, .int v1] h (Aft G jX10_leastOfKind 10 [some (.ref 0), some (.int v1), some (.int v2)] [] Q))) : Vw G jX10_leastOfKind 2 [some (.ref 0), some (.int v1), some (.int v2)] [] h Q :=
  s_iload_n dX10_leastOfKind_2 rfl (s_iload_n dX10_leastOfKind_3 rfl (s_icmp_ge 25 dX10_leastOfKind_4 rfl (fun q2 => s_iload_n dX10_leastOfKind_25 rfl (s_ireturn dX10_leastOfKind_26 rfl (K.1 q2))) (fun q2 => s_aload_n dX10_leastOfKind_7 rfl (s_iload_n dX10_leastOfKind_8 rfl (s_iload_n dX10_leastOfKind_9 rfl (s_callV (As := [.int v2, .int v1]) dX10_leastOfKind_10 rfl lvX10_268 ⟨Nat.le_of_ble_eq_true rfl, Nat.le_of_ble_eq_true rfl⟩ (hi.sh rfl rfl) ⟨_, _, by decide, rfl⟩ rfl (Nat.le_of_ble_eq_true rfl) ((K.2 q2))))))))
theorem bX10_leastOfKind_13 {G : GX} {h : mH} {Q : mO → mH → Prop} {v1 : Int32} {v2 : Int32} {vs0 : Int32} (hi : Iv h) (K : (¬ vs0 = 1 → Vw G jX10_leastOfKind 2 [some (.ref 0), some (.int v1), some (.int (v2 + 1))] [] h Q) ∧ (vs0 = 1 → Q (.inl (some (.int v2))) h)) : Vw G jX10_leastOfKind 13 [some (.ref 0), some (.int v1), some (.int v2)] [.int vs0] h Q :=
  s_iconst 1 dX10_leastOfKind_13 (by decide) (s_icmp_ne 19 dX10_leastOfKind_14 rfl (fun q1 => s_iinc 1 dX10_leastOfKind_19 rfl (by decide) (Nat.le_of_ble_eq_true rfl) rfl (s_goto 2 dX10_leastOfKind_22 rfl ((K.1 q1)))) (fun q1 => s_iload_n dX10_leastOfKind_17 rfl (s_ireturn dX10_leastOfKind_18 rfl (K.2 q1))))
theorem eX10_leastOfKind {G : GX} {h : mH} {Q : mO → mH → Prop} {v1 : Int32} (hi : Iv h) (K : Vw G jX10_leastOfKind 2 [some (.ref 0), some (.int v1), some (.int 0)] [] h Q) : WM G jX10_leastOfKind [.ref 0, .int v1] h Q :=
  WM.body (ls := [some (.ref 0), some (.int v1), none]) rfl (by decide +kernel) rfl (Nat.le_of_ble_eq_true rfl) rfl ((bX10_leastOfKind_0 hi  K))
theorem dX10_kinds_0 : decode cX10_kinds 0 = .ok (.iload_n 1, 1) := by decide +kernel
theorem dX10_kinds_1 : decode cX10_kinds 1 = .ok (.iconst (-1), 1) := by decide +kernel
theorem dX10_kinds_2 : decode cX10_kinds 2 = .ok (.if_icmp .eq 14, 3) := by decide +kernel
theorem dX10_kinds_5 : decode cX10_kinds 5 = .ok (.aload_n 0, 1) := by decide +kernel
theorem dX10_kinds_6 : decode cX10_kinds 6 = .ok (.iload_n 1, 1) := by decide +kernel
theorem dX10_kinds_7 : decode cX10_kinds 7 = .ok (.invokevirtual 261, 3) := by decide +kernel
theorem dX10_kinds_10 : decode cX10_kinds 10 = .ok (.aload_n 0, 1) := by decide +kernel
theorem dX10_kinds_11 : decode cX10_kinds 11 = .ok (.iload_n 1, 1) := by decide +kernel
theorem dX10_kinds_12 : decode cX10_kinds 12 = .ok (.invokevirtual 271, 3) := by decide +kernel
theorem dX10_kinds_15 : decode cX10_kinds 15 = .ok (.ireturn, 1) := by decide +kernel
theorem dX10_kinds_16 : decode cX10_kinds 16 = .ok (.iconst 0, 1) := by decide +kernel
theorem dX10_kinds_17 : decode cX10_kinds 17 = .ok (.istore_n 2, 1) := by decide +kernel
theorem dX10_kinds_18 : decode cX10_kinds 18 = .ok (.iconst 0, 1) := by decide +kernel
theorem dX10_kinds_19 : decode cX10_kinds 19 = .ok (.istore_n 3, 1) := by decide +kernel
theorem dX10_kinds_20 : decode cX10_kinds 20 = .ok (.iload_n 3, 1) := by decide +kernel
theorem dX10_kinds_21 : decode cX10_kinds 21 = .ok (.aload_n 0, 1) := by decide +kernel
theorem dX10_kinds_22 : decode cX10_kinds 22 = .ok (.getfield 32, 3) := by decide +kernel
theorem dX10_kinds_25 : decode cX10_kinds 25 = .ok (.getfield 178, 3) := by decide +kernel
theorem dX10_kinds_28 : decode cX10_kinds 28 = .ok (.if_icmp .ge 21, 3) := by decide +kernel
theorem dX10_kinds_31 : decode cX10_kinds 31 = .ok (.aload_n 0, 1) := by decide +kernel
theorem dX10_kinds_32 : decode cX10_kinds 32 = .ok (.iload_n 3, 1) := by decide +kernel
theorem dX10_kinds_33 : decode cX10_kinds 33 = .ok (.invokevirtual 271, 3) := by decide +kernel
theorem dX10_kinds_36 : decode cX10_kinds 36 = .ok (.iload_n 3, 1) := by decide +kernel
theorem dX10_kinds_37 : decode cX10_kinds 37 = .ok (.if_icmp .ne 6, 3) := by decide +kernel
theorem dX10_kinds_40 : decode cX10_kinds 40 = .ok (.iinc 2 1, 3) := by decide +kernel
theorem dX10_kinds_43 : decode cX10_kinds 43 = .ok (.iinc 3 1, 3) := by decide +kernel
theorem dX10_kinds_46 : decode cX10_kinds 46 = .ok (.goto (-26), 3) := by decide +kernel
theorem dX10_kinds_49 : decode cX10_kinds 49 = .ok (.iload_n 2, 1) := by decide +kernel
theorem dX10_kinds_50 : decode cX10_kinds 50 = .ok (.ireturn, 1) := by decide +kernel
theorem bX10_kinds_0 {G : GX} {h : mH} {Q : mO → mH → Prop} {v1 : Int32} (hi : Iv h) (K : (v1 = (-1) → Vw G jX10_kinds 20 [some (.ref 0), none, some (.int 0), some (.int 0)] [] h Q) ∧ (¬ v1 = (-1) → WM G jX10_needPortrait [.ref 0, .int v1] h (Aft G jX10_kinds 7 [some (.ref 0), some (.int v1), none, none] [] Q))) : Vw G jX10_kinds 0 [some (.ref 0), some (.int v1), none, none] [] h Q :=
  s_iload_n dX10_kinds_0 rfl (s_iconst (-1) dX10_kinds_1 (by decide) (s_icmp_eq 16 dX10_kinds_2 rfl (fun q2 => s_iconst 0 dX10_kinds_16 (by decide) (s_istore_n dX10_kinds_17 (Nat.le_of_ble_eq_true rfl) rfl (s_iconst 0 dX10_kinds_18 (by decide) (s_istore_n dX10_kinds_19 (Nat.le_of_ble_eq_true rfl) rfl (Vw.mask [true, false, true, true] ((K.1 q2))))))) (fun q2 => s_aload_n dX10_kinds_5 rfl (s_iload_n dX10_kinds_6 rfl (s_callV (As := [.int v1]) dX10_kinds_7 rfl lvX10_261 ⟨Nat.le_of_ble_eq_true rfl, Nat.le_of_ble_eq_true rfl⟩ (hi.sh rfl rfl) ⟨_, _, by decide, rfl⟩ rfl (Nat.le_of_ble_eq_true rfl) ((K.2 q2)))))))
theorem bX10_kinds_10 {G : GX} {h : mH} {Q : mO → mH → Prop} {v1 : Int32} (hi : Iv h) (K : WM G jX10_leastOfKind [.ref 0, .int v1] h (Aft G jX10_kinds 12 [none, none, none, none] [] Q)) : Vw G jX10_kinds 10 [some (.ref 0), some (.int v1), none, none] [] h Q :=
  s_aload_n dX10_kinds_10 rfl (s_iload_n dX10_kinds_11 rfl (Vw.mask [false, false, false, false] (s_callV (As := [.int v1]) dX10_kinds_12 rfl lvX10_271 ⟨Nat.le_of_ble_eq_true rfl, Nat.le_of_ble_eq_true rfl⟩ (hi.sh rfl rfl) ⟨_, _, by decide, rfl⟩ rfl (Nat.le_of_ble_eq_true rfl) (K))))
theorem bX10_kinds_15 {G : GX} {h : mH} {Q : mO → mH → Prop} {vs0 : Int32} (hi : Iv h) (K : Q (.inl (some (.int vs0))) h) : Vw G jX10_kinds 15 [none, none, none, none] [.int vs0] h Q :=
  s_ireturn dX10_kinds_15 rfl K
theorem bX10_kinds_20 {G : GX} {h : mH} {Q : mO → mH → Prop} {v2 : Int32} {v3 : Int32} (hi : Iv h) (K : ((gI h 33 1) ≤ v3 → Q (.inl (some (.int v2))) h) ∧ (¬ (gI h 33 1) ≤ v3 → WM G jX10_leastOfKind [.ref 0, .int v3] h (Aft G jX10_kinds 33 [some (.ref 0), none, some (.int v2), some (.int v3)] [] Q))) : Vw G jX10_kinds 20 [some (.ref 0), none, some (.int v2), some (.int v3)] [] h Q :=
  s_iload_n dX10_kinds_20 rfl (s_aload_n dX10_kinds_21 rfl (s_getR (v := .ref 33) dX10_kinds_22 flX10_32 rfl (hi.sh rfl rfl) (hi.rf (o := 0) (k := 4) (d := 33) rfl rfl) (s_getI dX10_kinds_25 flX10_178 (Or.inl rfl) (hi.sh rfl rfl) (s_icmp_ge 49 dX10_kinds_28 rfl (fun q4 => s_iload_n dX10_kinds_49 rfl (s_ireturn dX10_kinds_50 rfl (K.1 q4))) (fun q4 => s_aload_n dX10_kinds_31 rfl (s_iload_n dX10_kinds_32 rfl (s_callV (As := [.int v3]) dX10_kinds_33 rfl lvX10_271 ⟨Nat.le_of_ble_eq_true rfl, Nat.le_of_ble_eq_true rfl⟩ (hi.sh rfl rfl) ⟨_, _, by decide, rfl⟩ rfl (Nat.le_of_ble_eq_true rfl) ((K.2 q4)))))))))
theorem bX10_kinds_36 {G : GX} {h : mH} {Q : mO → mH → Prop} {v2 : Int32} {v3 : Int32} {vs0 : Int32} (hi : Iv h) (K : (¬ vs0 = v3 → Vw G jX10_kinds 43 [some (.ref 0), none, some (.int v2), some (.int v3)] [] h Q) ∧ (vs0 = v3 → Vw G jX10_kinds 43 [some (.ref 0), none, some (.int (v2 + 1)), some (.int v3)] [] h Q)) : Vw G jX10_kinds 36 [some (.ref 0), none, some (.int v2), some (.int v3)] [.int vs0] h Q :=
  s_iload_n dX10_kinds_36 rfl (s_icmp_ne 43 dX10_kinds_37 rfl (fun q1 => (K.1 q1)) (fun q1 => s_iinc 1 dX10_kinds_40 rfl (by decide) (Nat.le_of_ble_eq_true rfl) rfl ((K.2 q1))))
theorem bX10_kinds_43 {G : GX} {h : mH} {Q : mO → mH → Prop} {v2 : Int32} {v3 : Int32} (hi : Iv h) (K : Vw G jX10_kinds 20 [some (.ref 0), none, some (.int v2), some (.int (v3 + 1))] [] h Q) : Vw G jX10_kinds 43 [some (.ref 0), none, some (.int v2), some (.int v3)] [] h Q :=
  s_iinc 1 dX10_kinds_43 rfl (by decide) (Nat.le_of_ble_eq_true rfl) rfl (s_goto 20 dX10_kinds_46 rfl (K))
theorem eX10_kinds {G : GX} {h : mH} {Q : mO → mH → Prop} {v1 : Int32} (hi : Iv h) (K : (v1 = (-1) → Vw G jX10_kinds 20 [some (.ref 0), none, some (.int 0), some (.int 0)] [] h Q) ∧ (¬ v1 = (-1) → WM G jX10_needPortrait [.ref 0, .int v1] h (Aft G jX10_kinds 7 [some (.ref 0), some (.int v1), none, none] [] Q))) : WM G jX10_kinds [.ref 0, .int v1] h Q :=
  WM.body (ls := [some (.ref 0), some (.int v1), none, none]) rfl (by decide +kernel) rfl (Nat.le_of_ble_eq_true rfl) rfl ((bX10_kinds_0 hi  K))
theorem dX10_point_0 : decode cX10_point 0 = .ok (.aload_n 0, 1) := by decide +kernel
theorem dX10_point_1 : decode cX10_point 1 = .ok (.getfield 32, 3) := by decide +kernel
theorem dX10_point_4 : decode cX10_point 4 = .ok (.getfield 181, 3) := by decide +kernel
theorem dX10_point_7 : decode cX10_point 7 = .ok (.bipush 6, 2) := by decide +kernel
theorem dX10_point_9 : decode cX10_point 9 = .ok (.if_icmp .ge 24, 3) := by decide +kernel
theorem dX10_point_12 : decode cX10_point 12 = .ok (.iload_n 1, 1) := by decide +kernel
theorem dX10_point_13 : decode cX10_point 13 = .ok (.invokestatic 274, 3) := by decide +kernel
theorem dX10_point_16 : decode cX10_point 16 = .ok (.ifCond .eq 17, 3) := by decide +kernel
theorem dX10_point_19 : decode cX10_point 19 = .ok (.iload_n 2, 1) := by decide +kernel
theorem dX10_point_20 : decode cX10_point 20 = .ok (.invokestatic 278, 3) := by decide +kernel
theorem dX10_point_23 : decode cX10_point 23 = .ok (.ifCond .eq 10, 3) := by decide +kernel
theorem dX10_point_26 : decode cX10_point 26 = .ok (.iload_n 3, 1) := by decide +kernel
theorem dX10_point_27 : decode cX10_point 27 = .ok (.invokestatic 278, 3) := by decide +kernel
theorem dX10_point_30 : decode cX10_point 30 = .ok (.ifCond .ne 9, 3) := by decide +kernel
theorem dX10_point_33 : decode cX10_point 33 = .ok (.aload_n 0, 1) := by decide +kernel
theorem dX10_point_34 : decode cX10_point 34 = .ok (.iconst 3, 1) := by decide +kernel
theorem dX10_point_35 : decode cX10_point 35 = .ok (.invokevirtual 209, 3) := by decide +kernel
theorem dX10_point_38 : decode cX10_point 38 = .ok (.ireturn, 1) := by decide +kernel
theorem dX10_point_39 : decode cX10_point 39 = .ok (.iconst 3, 1) := by decide +kernel
theorem dX10_point_40 : decode cX10_point 40 = .ok (.aload_n 0, 1) := by decide +kernel
theorem dX10_point_41 : decode cX10_point 41 = .ok (.getfield 32, 3) := by decide +kernel
theorem dX10_point_44 : decode cX10_point 44 = .ok (.getfield 181, 3) := by decide +kernel
theorem dX10_point_47 : decode cX10_point 47 = .ok (.imul, 1) := by decide +kernel
theorem dX10_point_48 : decode cX10_point 48 = .ok (.istore 4, 2) := by decide +kernel
theorem dX10_point_50 : decode cX10_point 50 = .ok (.aload_n 0, 1) := by decide +kernel
theorem dX10_point_51 : decode cX10_point 51 = .ok (.getfield 32, 3) := by decide +kernel
theorem dX10_point_54 : decode cX10_point 54 = .ok (.getfield 281, 3) := by decide +kernel
theorem dX10_point_57 : decode cX10_point 57 = .ok (.iload 4, 2) := by decide +kernel
theorem dX10_point_59 : decode cX10_point 59 = .ok (.iload_n 1, 1) := by decide +kernel
theorem dX10_point_60 : decode cX10_point 60 = .ok (.iastore, 1) := by decide +kernel
theorem dX10_point_61 : decode cX10_point 61 = .ok (.aload_n 0, 1) := by decide +kernel
theorem dX10_point_62 : decode cX10_point 62 = .ok (.getfield 32, 3) := by decide +kernel
theorem dX10_point_65 : decode cX10_point 65 = .ok (.getfield 281, 3) := by decide +kernel
theorem dX10_point_68 : decode cX10_point 68 = .ok (.iload 4, 2) := by decide +kernel
theorem dX10_point_70 : decode cX10_point 70 = .ok (.iconst 1, 1) := by decide +kernel
theorem dX10_point_71 : decode cX10_point 71 = .ok (.iadd, 1) := by decide +kernel
theorem dX10_point_72 : decode cX10_point 72 = .ok (.iload_n 2, 1) := by decide +kernel
theorem dX10_point_73 : decode cX10_point 73 = .ok (.iastore, 1) := by decide +kernel
theorem dX10_point_74 : decode cX10_point 74 = .ok (.aload_n 0, 1) := by decide +kernel
theorem dX10_point_75 : decode cX10_point 75 = .ok (.getfield 32, 3) := by decide +kernel
theorem dX10_point_78 : decode cX10_point 78 = .ok (.getfield 281, 3) := by decide +kernel
theorem dX10_point_81 : decode cX10_point 81 = .ok (.iload 4, 2) := by decide +kernel
theorem dX10_point_83 : decode cX10_point 83 = .ok (.iconst 2, 1) := by decide +kernel
theorem dX10_point_84 : decode cX10_point 84 = .ok (.iadd, 1) := by decide +kernel
theorem dX10_point_85 : decode cX10_point 85 = .ok (.iload_n 3, 1) := by decide +kernel
theorem dX10_point_86 : decode cX10_point 86 = .ok (.iastore, 1) := by decide +kernel
theorem dX10_point_87 : decode cX10_point 87 = .ok (.aload_n 0, 1) := by decide +kernel
theorem dX10_point_88 : decode cX10_point 88 = .ok (.getfield 32, 3) := by decide +kernel
theorem dX10_point_91 : decode cX10_point 91 = .ok (.dup, 1) := by decide +kernel
theorem dX10_point_92 : decode cX10_point 92 = .ok (.getfield 181, 3) := by decide +kernel
theorem dX10_point_95 : decode cX10_point 95 = .ok (.iconst 1, 1) := by decide +kernel
theorem dX10_point_96 : decode cX10_point 96 = .ok (.iadd, 1) := by decide +kernel
theorem dX10_point_97 : decode cX10_point 97 = .ok (.putfield 181, 3) := by decide +kernel
theorem dX10_point_100 : decode cX10_point 100 = .ok (.aload_n 0, 1) := by decide +kernel
theorem dX10_point_101 : decode cX10_point 101 = .ok (.getfield 32, 3) := by decide +kernel
theorem dX10_point_104 : decode cX10_point 104 = .ok (.getfield 181, 3) := by decide +kernel
theorem dX10_point_107 : decode cX10_point 107 = .ok (.ireturn, 1) := by decide +kernel
theorem bX10_point_0 {G : GX} {h : mH} {Q : mO → mH → Prop} {v1 : Int32} {v2 : Int32} {v3 : Int32} (hi : Iv h) (K : (6 ≤ (gI h 33 3) → Vw G jX10_point 33 [some (.ref 0), none, none, none, none] [] h Q) ∧ (¬ 6 ≤ (gI h 33 3) → (((fX10_isTick v1) = 0 → Vw G jX10_point 33 [some (.ref 0), none, none, none, none] [] h Q) ∧ (¬ (fX10_isTick v1) = 0 → (((fX10_isPlace v2) = 0 → Vw G jX10_point 33 [some (.ref 0), none, none, none, none] [] h Q) ∧ (¬ (fX10_isPlace v2) = 0 → ((¬ (fX10_isPlace v3) = 0 → (vp_in (3 * (gI h 33 3)) 18 ∧ (vp_in ((3 * (gI h 33 3)) + 1) 18 ∧ (vp_in ((3 * (gI h 33 3)) + 2) 18 ∧ Q (.inl (some (.int (gI (pI (pI (pI (pI h 36 (Int32.toNatClampNeg (3 * (gI h 33 3))) v1) 36 (Int32.toNatClampNeg ((3 * (gI h 33 3)) + 1)) v2) 36 (Int32.toNatClampNeg ((3 * (gI h 33 3)) + 2)) v3) 33 3 ((gI (pI (pI (pI h 36 (Int32.toNatClampNeg (3 * (gI h 33 3))) v1) 36 (Int32.toNatClampNeg ((3 * (gI h 33 3)) + 1)) v2) 36 (Int32.toNatClampNeg ((3 * (gI h 33 3)) + 2)) v3) 33 3) + 1)) 33 3)))) (pI (pI (pI (pI h 36 (Int32.toNatClampNeg (3 * (gI h 33 3))) v1) 36 (Int32.toNatClampNeg ((3 * (gI h 33 3)) + 1)) v2) 36 (Int32.toNatClampNeg ((3 * (gI h 33 3)) + 2)) v3) 33 3 ((gI (pI (pI (pI h 36 (Int32.toNatClampNeg (3 * (gI h 33 3))) v1) 36 (Int32.toNatClampNeg ((3 * (gI h 33 3)) + 1)) v2) 36 (Int32.toNatClampNeg ((3 * (gI h 33 3)) + 2)) v3) 33 3) + 1)))))) ∧ ((fX10_isPlace v3) = 0 → Vw G jX10_point 33 [some (.ref 0), none, none, none, none] [] h Q)))))))) : Vw G jX10_point 0 [some (.ref 0), some (.int v1), some (.int v2), some (.int v3), none] [] h Q :=
  s_aload_n dX10_point_0 rfl (s_getR (v := .ref 33) dX10_point_1 flX10_32 rfl (hi.sh rfl rfl) (hi.rf (o := 0) (k := 4) (d := 33) rfl rfl) (s_getI dX10_point_4 flX10_181 (Or.inl rfl) (hi.sh rfl rfl) (s_bipush 6 dX10_point_7 (by decide) (s_icmp_ge 33 dX10_point_9 rfl (fun q4 => Vw.mask [true, false, false, false, false] ((K.1 q4))) (fun q4 => s_iload_n dX10_point_12 rfl (s_callS (As := [.int v1]) dX10_point_13 rfl lsX10_274 ⟨Nat.le_of_ble_eq_true rfl, Nat.le_of_ble_eq_true rfl⟩ rfl (Nat.le_of_ble_eq_true rfl) (mX10_isTick   (s_if_eq 33 dX10_point_16 rfl (fun q7 => Vw.mask [true, false, false, false, false] (((K.2 q4).1 q7))) (fun q7 => s_iload_n dX10_point_19 rfl (s_callS (As := [.int v2]) dX10_point_20 rfl lsX10_278 ⟨Nat.le_of_ble_eq_true rfl, Nat.le_of_ble_eq_true rfl⟩ rfl (Nat.le_of_ble_eq_true rfl) (mX10_isPlace   (s_if_eq 33 dX10_point_23 rfl (fun q10 => Vw.mask [true, false, false, false, false] ((((K.2 q4).2 q7).1 q10))) (fun q10 => s_iload_n dX10_point_26 rfl (s_callS (As := [.int v3]) dX10_point_27 rfl lsX10_278 ⟨Nat.le_of_ble_eq_true rfl, Nat.le_of_ble_eq_true rfl⟩ rfl (Nat.le_of_ble_eq_true rfl) (mX10_isPlace   (s_if_ne 39 dX10_point_30 rfl (fun q13 => s_iconst 3 dX10_point_39 (by decide) (s_aload_n dX10_point_40 rfl (s_getR (v := .ref 33) dX10_point_41 flX10_32 rfl (hi.sh rfl rfl) (hi.rf (o := 0) (k := 4) (d := 33) rfl rfl) (s_getI dX10_point_44 flX10_181 (Or.inl rfl) (hi.sh rfl rfl) (s_imul dX10_point_47 (s_istore dX10_point_48 (Nat.le_of_ble_eq_true rfl) rfl (s_aload_n dX10_point_50 rfl (s_getR (v := .ref 33) dX10_point_51 flX10_32 rfl (hi.sh rfl rfl) (hi.rf (o := 0) (k := 4) (d := 33) rfl rfl) (s_getR (v := .ref 36) dX10_point_54 flX10_281 rfl (hi.sh rfl rfl) (hi.rf (o := 33) (k := 4) (d := 3) rfl rfl) (s_iload dX10_point_57 rfl (s_iload_n dX10_point_59 rfl (s_iastore dX10_point_60 (hi.sh rfl rfl) ((((K.2 q4).2 q7).2 q10).1 q13).1 (s_aload_n dX10_point_61 rfl (s_getR (v := .ref 33) dX10_point_62 flX10_32 rfl (hi.sh rfl rfl) (hi.rf (o := 0) (k := 4) (d := 33) rfl rfl) (s_getR (v := .ref 36) dX10_point_65 flX10_281 rfl (hi.sh rfl rfl) (hi.rf (o := 33) (k := 4) (d := 3) rfl rfl) (s_iload dX10_point_68 rfl (s_iconst 1 dX10_point_70 (by decide) (s_iadd dX10_point_71 (s_iload_n dX10_point_72 rfl (s_iastore dX10_point_73 (hi.sh rfl rfl) ((((K.2 q4).2 q7).2 q10).1 q13).2.1 (s_aload_n dX10_point_74 rfl (s_getR (v := .ref 33) dX10_point_75 flX10_32 rfl (hi.sh rfl rfl) (hi.rf (o := 0) (k := 4) (d := 33) rfl rfl) (s_getR (v := .ref 36) dX10_point_78 flX10_281 rfl (hi.sh rfl rfl) (hi.rf (o := 33) (k := 4) (d := 3) rfl rfl) (s_iload dX10_point_81 rfl (s_iconst 2 dX10_point_83 (by decide) (s_iadd dX10_point_84 (s_iload_n dX10_point_85 rfl (s_iastore dX10_point_86 (hi.sh rfl rfl) ((((K.2 q4).2 q7).2 q10).1 q13).2.2.1 (s_aload_n dX10_point_87 rfl (s_getR (v := .ref 33) dX10_point_88 flX10_32 rfl (hi.sh rfl rfl) (hi.rf (o := 0) (k := 4) (d := 33) rfl rfl) (s_dupr dX10_point_91 (s_getI dX10_point_92 flX10_181 (Or.inl rfl) (hi.sh rfl rfl) (s_iconst 1 dX10_point_95 (by decide) (s_iadd dX10_point_96 (s_putI dX10_point_97 flX10_181 ff3_3 rfl (hi.sh rfl rfl) (s_aload_n dX10_point_100 rfl (s_getR (v := .ref 33) dX10_point_101 flX10_32 rfl (hi.sh rfl rfl) (hi.rf (o := 0) (k := 4) (d := 33) rfl rfl) (s_getI dX10_point_104 flX10_181 (Or.inl rfl) (hi.sh rfl rfl) (s_ireturn dX10_point_107 rfl ((((K.2 q4).2 q7).2 q10).1 q13).2.2.2))))))))))))))))))))))))))))))))))))))) (fun q13 => Vw.mask [true, false, false, false, false] (((((K.2 q4).2 q7).2 q10).2 q13)))))))))))))))))))
theorem bX10_point_33 {G : GX} {h : mH} {Q : mO → mH → Prop} (hi : Iv h) (K : WM G jX10_refuse [.ref 0, .int 3] h (Aft G jX10_point 35 [none, none, none, none, none] [] Q)) : Vw G jX10_point 33 [some (.ref 0), none, none, none, none] [] h Q :=
  s_aload_n dX10_point_33 rfl (s_iconst 3 dX10_point_34 (by decide) (Vw.mask [false, false, false, false, false] (s_callV (As := [.int 3]) dX10_point_35 rfl lvX10_209 ⟨Nat.le_of_ble_eq_true rfl, Nat.le_of_ble_eq_true rfl⟩ (hi.sh rfl rfl) ⟨_, _, by decide, rfl⟩ rfl (Nat.le_of_ble_eq_true rfl) (K))))
theorem bX10_point_38 {G : GX} {h : mH} {Q : mO → mH → Prop} {vs0 : Int32} (hi : Iv h) (K : Q (.inl (some (.int vs0))) h) : Vw G jX10_point 38 [none, none, none, none, none] [.int vs0] h Q :=
  s_ireturn dX10_point_38 rfl K
theorem eX10_point {G : GX} {h : mH} {Q : mO → mH → Prop} {v1 : Int32} {v2 : Int32} {v3 : Int32} (hi : Iv h) (K : (6 ≤ (gI h 33 3) → Vw G jX10_point 33 [some (.ref 0), none, none, none, none] [] h Q) ∧ (¬ 6 ≤ (gI h 33 3) → (((fX10_isTick v1) = 0 → Vw G jX10_point 33 [some (.ref 0), none, none, none, none] [] h Q) ∧ (¬ (fX10_isTick v1) = 0 → (((fX10_isPlace v2) = 0 → Vw G jX10_point 33 [some (.ref 0), none, none, none, none] [] h Q) ∧ (¬ (fX10_isPlace v2) = 0 → ((¬ (fX10_isPlace v3) = 0 → (vp_in (3 * (gI h 33 3)) 18 ∧ (vp_in ((3 * (gI h 33 3)) + 1) 18 ∧ (vp_in ((3 * (gI h 33 3)) + 2) 18 ∧ Q (.inl (some (.int (gI (pI (pI (pI (pI h 36 (Int32.toNatClampNeg (3 * (gI h 33 3))) v1) 36 (Int32.toNatClampNeg ((3 * (gI h 33 3)) + 1)) v2) 36 (Int32.toNatClampNeg ((3 * (gI h 33 3)) + 2)) v3) 33 3 ((gI (pI (pI (pI h 36 (Int32.toNatClampNeg (3 * (gI h 33 3))) v1) 36 (Int32.toNatClampNeg ((3 * (gI h 33 3)) + 1)) v2) 36 (Int32.toNatClampNeg ((3 * (gI h 33 3)) + 2)) v3) 33 3) + 1)) 33 3)))) (pI (pI (pI (pI h 36 (Int32.toNatClampNeg (3 * (gI h 33 3))) v1) 36 (Int32.toNatClampNeg ((3 * (gI h 33 3)) + 1)) v2) 36 (Int32.toNatClampNeg ((3 * (gI h 33 3)) + 2)) v3) 33 3 ((gI (pI (pI (pI h 36 (Int32.toNatClampNeg (3 * (gI h 33 3))) v1) 36 (Int32.toNatClampNeg ((3 * (gI h 33 3)) + 1)) v2) 36 (Int32.toNatClampNeg ((3 * (gI h 33 3)) + 2)) v3) 33 3) + 1)))))) ∧ ((fX10_isPlace v3) = 0 → Vw G jX10_point 33 [some (.ref 0), none, none, none, none] [] h Q)))))))) : WM G jX10_point [.ref 0, .int v1, .int v2, .int v3] h Q :=
  WM.body (ls := [some (.ref 0), some (.int v1), some (.int v2), some (.int v3), none]) rfl (by decide +kernel) rfl (Nat.le_of_ble_eq_true rfl) rfl ((bX10_point_0 hi  K))
theorem dX10_unpoint_0 : decode cX10_unpoint 0 = .ok (.aload_n 0, 1) := by decide +kernel
theorem dX10_unpoint_1 : decode cX10_unpoint 1 = .ok (.getfield 32, 3) := by decide +kernel
theorem dX10_unpoint_4 : decode cX10_unpoint 4 = .ok (.getfield 181, 3) := by decide +kernel
theorem dX10_unpoint_7 : decode cX10_unpoint 7 = .ok (.ifCond .ne 5, 3) := by decide +kernel
theorem dX10_unpoint_10 : decode cX10_unpoint 10 = .ok (.iconst (-1), 1) := by decide +kernel
theorem dX10_unpoint_11 : decode cX10_unpoint 11 = .ok (.ireturn, 1) := by decide +kernel
theorem dX10_unpoint_12 : decode cX10_unpoint 12 = .ok (.aload_n 0, 1) := by decide +kernel
theorem dX10_unpoint_13 : decode cX10_unpoint 13 = .ok (.getfield 32, 3) := by decide +kernel
theorem dX10_unpoint_16 : decode cX10_unpoint 16 = .ok (.dup, 1) := by decide +kernel
theorem dX10_unpoint_17 : decode cX10_unpoint 17 = .ok (.getfield 181, 3) := by decide +kernel
theorem dX10_unpoint_20 : decode cX10_unpoint 20 = .ok (.iconst 1, 1) := by decide +kernel
theorem dX10_unpoint_21 : decode cX10_unpoint 21 = .ok (.isub, 1) := by decide +kernel
theorem dX10_unpoint_22 : decode cX10_unpoint 22 = .ok (.putfield 181, 3) := by decide +kernel
theorem dX10_unpoint_25 : decode cX10_unpoint 25 = .ok (.aload_n 0, 1) := by decide +kernel
theorem dX10_unpoint_26 : decode cX10_unpoint 26 = .ok (.getfield 32, 3) := by decide +kernel
theorem dX10_unpoint_29 : decode cX10_unpoint 29 = .ok (.getfield 181, 3) := by decide +kernel
theorem dX10_unpoint_32 : decode cX10_unpoint 32 = .ok (.ireturn, 1) := by decide +kernel
theorem bX10_unpoint_0 {G : GX} {h : mH} {Q : mO → mH → Prop} (hi : Iv h) (K : (¬ (gI h 33 3) = 0 → Q (.inl (some (.int (gI (pI h 33 3 ((gI h 33 3) - 1)) 33 3)))) (pI h 33 3 ((gI h 33 3) - 1))) ∧ ((gI h 33 3) = 0 → Q (.inl (some (.int (-1)))) h)) : Vw G jX10_unpoint 0 [some (.ref 0)] [] h Q :=
  s_aload_n dX10_unpoint_0 rfl (s_getR (v := .ref 33) dX10_unpoint_1 flX10_32 rfl (hi.sh rfl rfl) (hi.rf (o := 0) (k := 4) (d := 33) rfl rfl) (s_getI dX10_unpoint_4 flX10_181 (Or.inl rfl) (hi.sh rfl rfl) (s_if_ne 12 dX10_unpoint_7 rfl (fun q3 => s_aload_n dX10_unpoint_12 rfl (s_getR (v := .ref 33) dX10_unpoint_13 flX10_32 rfl (hi.sh rfl rfl) (hi.rf (o := 0) (k := 4) (d := 33) rfl rfl) (s_dupr dX10_unpoint_16 (s_getI dX10_unpoint_17 flX10_181 (Or.inl rfl) (hi.sh rfl rfl) (s_iconst 1 dX10_unpoint_20 (by decide) (s_isub dX10_unpoint_21 (s_putI dX10_unpoint_22 flX10_181 ff3_3 rfl (hi.sh rfl rfl) (s_aload_n dX10_unpoint_25 rfl (s_getR (v := .ref 33) dX10_unpoint_26 flX10_32 rfl (hi.sh rfl rfl) (hi.rf (o := 0) (k := 4) (d := 33) rfl rfl) (s_getI dX10_unpoint_29 flX10_181 (Or.inl rfl) (hi.sh rfl rfl) (s_ireturn dX10_unpoint_32 rfl (K.1 q3)))))))))))) (fun q3 => s_iconst (-1) dX10_unpoint_10 (by decide) (s_ireturn dX10_unpoint_11 rfl (K.2 q3))))))
theorem eX10_unpoint {G : GX} {h : mH} {Q : mO → mH → Prop} (hi : Iv h) (K : (¬ (gI h 33 3) = 0 → Q (.inl (some (.int (gI (pI h 33 3 ((gI h 33 3) - 1)) 33 3)))) (pI h 33 3 ((gI h 33 3) - 1))) ∧ ((gI h 33 3) = 0 → Q (.inl (some (.int (-1)))) h)) : WM G jX10_unpoint [.ref 0] h Q :=
  WM.body (ls := [some (.ref 0)]) rfl (by decide +kernel) rfl (Nat.le_of_ble_eq_true rfl) rfl ((bX10_unpoint_0 hi  K))
theorem dX10_needWithin_0 : decode cX10_needWithin 0 = .ok (.iload_n 0, 1) := by decide +kernel
theorem dX10_needWithin_1 : decode cX10_needWithin 1 = .ok (.iload_n 1, 1) := by decide +kernel
theorem dX10_needWithin_2 : decode cX10_needWithin 2 = .ok (.if_icmp .lt 8, 3) := by decide +kernel
theorem dX10_needWithin_5 : decode cX10_needWithin 5 = .ok (.iload_n 0, 1) := by decide +kernel
theorem dX10_needWithin_6 : decode cX10_needWithin 6 = .ok (.iload_n 2, 1) := by decide +kernel
theorem dX10_needWithin_7 : decode cX10_needWithin 7 = .ok (.if_icmp .le 14, 3) := by decide +kernel
theorem dX10_needWithin_10 : decode cX10_needWithin 10 = .ok (.new 372, 3) := by decide +kernel
theorem dX10_needWithin_13 : decode cX10_needWithin 13 = .ok (.dup, 1) := by decide +kernel
theorem dX10_needWithin_14 : decode cX10_needWithin 14 = .ok (.ldc_w 389, 3) := by decide +kernel
theorem dX10_needWithin_17 : decode cX10_needWithin 17 = .ok (.invokespecial 376, 3) := by decide +kernel
theorem dX10_needWithin_20 : decode cX10_needWithin 20 = .ok (.athrow, 1) := by decide +kernel
theorem dX10_needWithin_21 : decode cX10_needWithin 21 = .ok (.return_, 1) := by decide +kernel
theorem bX10_needWithin_0 {G : GX} {h : mH} {Q : mO → mH → Prop} {v0 : Int32} {v1 : Int32} {v2 : Int32} (hi : Iv h) (K : (v0 < v1 → Vw G jX10_needWithin 10 [none, none, none] [] h Q) ∧ (¬ v0 < v1 → ((v0 ≤ v2 → Q (.inl none) h) ∧ (¬ v0 ≤ v2 → Vw G jX10_needWithin 10 [none, none, none] [] h Q)))) : Vw G jX10_needWithin 0 [some (.int v0), some (.int v1), some (.int v2)] [] h Q :=
  s_iload_n dX10_needWithin_0 rfl (s_iload_n dX10_needWithin_1 rfl (s_icmp_lt 10 dX10_needWithin_2 rfl (fun q2 => Vw.mask [false, false, false] ((K.1 q2))) (fun q2 => s_iload_n dX10_needWithin_5 rfl (s_iload_n dX10_needWithin_6 rfl (s_icmp_le 21 dX10_needWithin_7 rfl (fun q5 => s_return dX10_needWithin_21 rfl ((K.2 q2).1 q5)) (fun q5 => Vw.mask [false, false, false] (((K.2 q2).2 q5))))))))
theorem bX10_needWithin_10 {G : GX} {h : mH} {Q : mO → mH → Prop} (hi : Iv h) (K : (h.1.length + 1 ≤ NC ∧ sl h + 6 ≤ NS) ∧ Q (.inr "java/lang/IllegalArgumentException") h ∧ ∀ n, n ≤ 6 → Q (.inr "java/lang/IllegalArgumentException") (aN h 200 n)) : Vw G jX10_needWithin 10 [none, none, none] [] h Q :=
  s_throw dX10_needWithin_10 dX10_needWithin_13 dX10_needWithin_14 dX10_needWithin_17 dX10_needWithin_20 rfl ktX10_389 (Nat.le_of_ble_eq_true rfl) (Nat.le_of_ble_eq_true rfl) K.1.1 K.1.2 K.2.1 K.2.2
theorem eX10_needWithin {G : GX} {h : mH} {Q : mO → mH → Prop} {v0 : Int32} {v1 : Int32} {v2 : Int32} (hi : Iv h) (K : (v0 < v1 → Vw G jX10_needWithin 10 [none, none, none] [] h Q) ∧ (¬ v0 < v1 → ((v0 ≤ v2 → Q (.inl none) h) ∧ (¬ v0 ≤ v2 → Vw G jX10_needWithin 10 [none, none, none] [] h Q)))) : WM G jX10_needWithin [.int v0, .int v1, .int v2] h Q :=
  WM.body (ls := [some (.int v0), some (.int v1), some (.int v2)]) rfl (by decide +kernel) rfl (Nat.le_of_ble_eq_true rfl) rfl ((bX10_needWithin_0 hi  K))
theorem dX10_fits_0 : decode cX10_fits 0 = .ok (.iload_n 3, 1) := by decide +kernel
theorem dX10_fits_1 : decode cX10_fits 1 = .ok (.iconst 3, 1) := by decide +kernel
theorem dX10_fits_2 : decode cX10_fits 2 = .ok (.invokestatic 140, 3) := by decide +kernel
theorem dX10_fits_5 : decode cX10_fits 5 = .ok (.iload_n 1, 1) := by decide +kernel
theorem dX10_fits_6 : decode cX10_fits 6 = .ok (.iconst 0, 1) := by decide +kernel
theorem dX10_fits_7 : decode cX10_fits 7 = .ok (.iconst 5, 1) := by decide +kernel
theorem dX10_fits_8 : decode cX10_fits 8 = .ok (.invokestatic 284, 3) := by decide +kernel
theorem dX10_fits_11 : decode cX10_fits 11 = .ok (.iload_n 2, 1) := by decide +kernel
theorem dX10_fits_12 : decode cX10_fits 12 = .ok (.iconst 0, 1) := by decide +kernel
theorem dX10_fits_13 : decode cX10_fits 13 = .ok (.bipush 99, 2) := by decide +kernel
theorem dX10_fits_15 : decode cX10_fits 15 = .ok (.invokestatic 284, 3) := by decide +kernel
theorem dX10_fits_18 : decode cX10_fits 18 = .ok (.aload_n 0, 1) := by decide +kernel
theorem dX10_fits_19 : decode cX10_fits 19 = .ok (.getfield 23, 3) := by decide +kernel
theorem dX10_fits_22 : decode cX10_fits 22 = .ok (.aload_n 0, 1) := by decide +kernel
theorem dX10_fits_23 : decode cX10_fits 23 = .ok (.getfield 19, 3) := by decide +kernel
theorem dX10_fits_26 : decode cX10_fits 26 = .ok (.invokevirtual 122, 3) := by decide +kernel
theorem dX10_fits_29 : decode cX10_fits 29 = .ok (.aload_n 0, 1) := by decide +kernel
theorem dX10_fits_30 : decode cX10_fits 30 = .ok (.getfield 70, 3) := by decide +kernel
theorem dX10_fits_33 : decode cX10_fits 33 = .ok (.aload_n 0, 1) := by decide +kernel
theorem dX10_fits_34 : decode cX10_fits 34 = .ok (.getfield 23, 3) := by decide +kernel
theorem dX10_fits_37 : decode cX10_fits 37 = .ok (.aload_n 0, 1) := by decide +kernel
theorem dX10_fits_38 : decode cX10_fits 38 = .ok (.getfield 32, 3) := by decide +kernel
theorem dX10_fits_41 : decode cX10_fits 41 = .ok (.iload_n 1, 1) := by decide +kernel
theorem dX10_fits_42 : decode cX10_fits 42 = .ok (.iload_n 2, 1) := by decide +kernel
theorem dX10_fits_43 : decode cX10_fits 43 = .ok (.invokevirtual 288, 3) := by decide +kernel
theorem dX10_fits_46 : decode cX10_fits 46 = .ok (.iload_n 3, 1) := by decide +kernel
theorem dX10_fits_47 : decode cX10_fits 47 = .ok (.tableswitch 49 0 2 #[25, 33, 41], 25) := by decide +kernel
theorem dX10_fits_72 : decode cX10_fits 72 = .ok (.aload_n 0, 1) := by decide +kernel
theorem dX10_fits_73 : decode cX10_fits 73 = .ok (.getfield 70, 3) := by decide +kernel
theorem dX10_fits_76 : decode cX10_fits 76 = .ok (.getfield 292, 3) := by decide +kernel
theorem dX10_fits_79 : decode cX10_fits 79 = .ok (.ireturn, 1) := by decide +kernel
theorem dX10_fits_80 : decode cX10_fits 80 = .ok (.aload_n 0, 1) := by decide +kernel
theorem dX10_fits_81 : decode cX10_fits 81 = .ok (.getfield 70, 3) := by decide +kernel
theorem dX10_fits_84 : decode cX10_fits 84 = .ok (.getfield 295, 3) := by decide +kernel
theorem dX10_fits_87 : decode cX10_fits 87 = .ok (.ireturn, 1) := by decide +kernel
theorem dX10_fits_88 : decode cX10_fits 88 = .ok (.aload_n 0, 1) := by decide +kernel
theorem dX10_fits_89 : decode cX10_fits 89 = .ok (.getfield 70, 3) := by decide +kernel
theorem dX10_fits_92 : decode cX10_fits 92 = .ok (.getfield 298, 3) := by decide +kernel
theorem dX10_fits_95 : decode cX10_fits 95 = .ok (.ireturn, 1) := by decide +kernel
theorem dX10_fits_96 : decode cX10_fits 96 = .ok (.aload_n 0, 1) := by decide +kernel
theorem dX10_fits_97 : decode cX10_fits 97 = .ok (.getfield 70, 3) := by decide +kernel
theorem dX10_fits_100 : decode cX10_fits 100 = .ok (.getfield 301, 3) := by decide +kernel
theorem dX10_fits_103 : decode cX10_fits 103 = .ok (.ireturn, 1) := by decide +kernel
theorem bX10_fits_0 {G : GX} {h : mH} {Q : mO → mH → Prop} {v1 : Int32} {v2 : Int32} {v3 : Int32} (hi : Iv h) (K : WM G jX10_needWhat [.int v3, .int 3] h (Aft G jX10_fits 2 [some (.ref 0), some (.int v1), some (.int v2), some (.int v3)] [] Q)) : Vw G jX10_fits 0 [some (.ref 0), some (.int v1), some (.int v2), some (.int v3)] [] h Q :=
  s_iload_n dX10_fits_0 rfl (s_iconst 3 dX10_fits_1 (by decide) (s_callS (As := [.int v3, .int 3]) dX10_fits_2 rfl lsX10_140 ⟨Nat.le_of_ble_eq_true rfl, Nat.le_of_ble_eq_true rfl⟩ rfl (Nat.le_of_ble_eq_true rfl) (K)))
theorem bX10_fits_5 {G : GX} {h : mH} {Q : mO → mH → Prop} {v1 : Int32} {v2 : Int32} {v3 : Int32} (hi : Iv h) (K : WM G jX10_needWithin [.int v1, .int 0, .int 5] h (Aft G jX10_fits 8 [some (.ref 0), some (.int v1), some (.int v2), some (.int v3)] [] Q)) : Vw G jX10_fits 5 [some (.ref 0), some (.int v1), some (.int v2), some (.int v3)] [] h Q :=
  s_iload_n dX10_fits_5 rfl (s_iconst 0 dX10_fits_6 (by decide) (s_iconst 5 dX10_fits_7 (by decide) (s_callS (As := [.int v1, .int 0, .int 5]) dX10_fits_8 rfl lsX10_284 ⟨Nat.le_of_ble_eq_true rfl, Nat.le_of_ble_eq_true rfl⟩ rfl (Nat.le_of_ble_eq_true rfl) (K))))
theorem bX10_fits_11 {G : GX} {h : mH} {Q : mO → mH → Prop} {v1 : Int32} {v2 : Int32} {v3 : Int32} (hi : Iv h) (K : WM G jX10_needWithin [.int v2, .int 0, .int 99] h (Aft G jX10_fits 15 [some (.ref 0), some (.int v1), some (.int v2), some (.int v3)] [] Q)) : Vw G jX10_fits 11 [some (.ref 0), some (.int v1), some (.int v2), some (.int v3)] [] h Q :=
  s_iload_n dX10_fits_11 rfl (s_iconst 0 dX10_fits_12 (by decide) (s_bipush 99 dX10_fits_13 (by decide) (s_callS (As := [.int v2, .int 0, .int 99]) dX10_fits_15 rfl lsX10_284 ⟨Nat.le_of_ble_eq_true rfl, Nat.le_of_ble_eq_true rfl⟩ rfl (Nat.le_of_ble_eq_true rfl) (K))))
theorem bX10_fits_18 {G : GX} {h : mH} {Q : mO → mH → Prop} {v1 : Int32} {v2 : Int32} {v3 : Int32} (hi : Iv h) (K : WM G jX2_copy [.ref 13, .ref 3] h (Aft G jX10_fits 26 [some (.ref 0), some (.int v1), some (.int v2), some (.int v3)] [] Q)) : Vw G jX10_fits 18 [some (.ref 0), some (.int v1), some (.int v2), some (.int v3)] [] h Q :=
  s_aload_n dX10_fits_18 rfl (s_getR (v := .ref 13) dX10_fits_19 flX10_23 rfl (hi.sh rfl rfl) (hi.rf (o := 0) (k := 2) (d := 13) rfl rfl) (s_aload_n dX10_fits_22 rfl (s_getR (v := .ref 3) dX10_fits_23 flX10_19 rfl (hi.sh rfl rfl) (hi.rf (o := 0) (k := 1) (d := 3) rfl rfl) (s_callV (As := [.ref 3]) dX10_fits_26 rfl lvX10_122 ⟨Nat.le_of_ble_eq_true rfl, Nat.le_of_ble_eq_true rfl⟩ (hi.sh rfl rfl) ⟨_, _, by decide, rfl⟩ rfl (Nat.le_of_ble_eq_true rfl) (K)))))
theorem bX10_fits_29 {G : GX} {h : mH} {Q : mO → mH → Prop} {v1 : Int32} {v2 : Int32} {v3 : Int32} (hi : Iv h) (K : WM G jX1_findRows [.ref 71, .ref 13, .ref 33, .int v1, .int v2] h (Aft G jX10_fits 43 [some (.ref 0), none, none, some (.int v3)] [] Q)) : Vw G jX10_fits 29 [some (.ref 0), some (.int v1), some (.int v2), some (.int v3)] [] h Q :=
  s_aload_n dX10_fits_29 rfl (s_getR (v := .ref 71) dX10_fits_30 flX10_70 rfl (hi.sh rfl rfl) (hi.rf (o := 0) (k := 11) (d := 71) rfl rfl) (s_aload_n dX10_fits_33 rfl (s_getR (v := .ref 13) dX10_fits_34 flX10_23 rfl (hi.sh rfl rfl) (hi.rf (o := 0) (k := 2) (d := 13) rfl rfl) (s_aload_n dX10_fits_37 rfl (s_getR (v := .ref 33) dX10_fits_38 flX10_32 rfl (hi.sh rfl rfl) (hi.rf (o := 0) (k := 4) (d := 33) rfl rfl) (s_iload_n dX10_fits_41 rfl (s_iload_n dX10_fits_42 rfl (Vw.mask [true, false, false, true] (s_callV (As := [.ref 13, .ref 33, .int v1, .int v2]) dX10_fits_43 rfl lvX10_288 ⟨Nat.le_of_ble_eq_true rfl, Nat.le_of_ble_eq_true rfl⟩ (hi.sh rfl rfl) ⟨_, _, by decide, rfl⟩ rfl (Nat.le_of_ble_eq_true rfl) (K))))))))))
theorem bX10_fits_46 {G : GX} {h : mH} {Q : mO → mH → Prop} {v3 : Int32} (hi : Iv h) (K : (v3 = 0 → Q (.inl (some (.int (gI h 71 0)))) h) ∧ (v3 = 1 → Q (.inl (some (.int (gI h 71 1)))) h) ∧ (v3 = 2 → Q (.inl (some (.int (gI h 71 2)))) h) ∧ (¬ v3 = 0 → ¬ v3 = 1 → ¬ v3 = 2 → Q (.inl (some (.int (gI h 71 3)))) h)) : Vw G jX10_fits 46 [some (.ref 0), none, none, some (.int v3)] [] h Q :=
  s_iload_n dX10_fits_46 rfl (Decidable.byCases (fun e1_0 => s_tableIn 72 dX10_fits_47 (by rw [e1_0] <;> decide) (by rw [e1_0] <;> decide) (by rw [e1_0] <;> rfl) rfl (s_aload_n dX10_fits_72 rfl (s_getR (v := .ref 71) dX10_fits_73 flX10_70 rfl (hi.sh rfl rfl) (hi.rf (o := 0) (k := 11) (d := 71) rfl rfl) (s_getI dX10_fits_76 flX10_292 (Or.inl rfl) (hi.sh rfl rfl) (s_ireturn dX10_fits_79 rfl (K.1 e1_0)))))) (fun e1_0 => Decidable.byCases (fun e1_1 => s_tableIn 80 dX10_fits_47 (by rw [e1_1] <;> decide) (by rw [e1_1] <;> decide) (by rw [e1_1] <;> rfl) rfl (s_aload_n dX10_fits_80 rfl (s_getR (v := .ref 71) dX10_fits_81 flX10_70 rfl (hi.sh rfl rfl) (hi.rf (o := 0) (k := 11) (d := 71) rfl rfl) (s_getI dX10_fits_84 flX10_295 (Or.inl rfl) (hi.sh rfl rfl) (s_ireturn dX10_fits_87 rfl (K.2.1 e1_1)))))) (fun e1_1 => Decidable.byCases (fun e1_2 => s_tableIn 88 dX10_fits_47 (by rw [e1_2] <;> decide) (by rw [e1_2] <;> decide) (by rw [e1_2] <;> rfl) rfl (s_aload_n dX10_fits_88 rfl (s_getR (v := .ref 71) dX10_fits_89 flX10_70 rfl (hi.sh rfl rfl) (hi.rf (o := 0) (k := 11) (d := 71) rfl rfl) (s_getI dX10_fits_92 flX10_298 (Or.inl rfl) (hi.sh rfl rfl) (s_ireturn dX10_fits_95 rfl (K.2.2.1 e1_2)))))) (fun e1_2 => s_tableOut 96 dX10_fits_47 (sw_out [0, 1, 2] (by simp only [List.forall_mem_cons]; exact ⟨e1_0, e1_1, e1_2, fun _ hh => nomatch hh⟩) (fun k z1 z2 => by rcases (show k = 0 ∨ k = 1 ∨ k = 2 by omega) with rfl | rfl | rfl <;> decide)) rfl (s_aload_n dX10_fits_96 rfl (s_getR (v := .ref 71) dX10_fits_97 flX10_70 rfl (hi.sh rfl rfl) (hi.rf (o := 0) (k := 11) (d := 71) rfl rfl) (s_getI dX10_fits_100 flX10_301 (Or.inl rfl) (hi.sh rfl rfl) (s_ireturn dX10_fits_103 rfl (K.2.2.2 e1_0 e1_1 e1_2)))))))))
theorem eX10_fits {G : GX} {h : mH} {Q : mO → mH → Prop} {v1 : Int32} {v2 : Int32} {v3 : Int32} (hi : Iv h) (K : WM G jX10_needWhat [.int v3, .int 3] h (Aft G jX10_fits 2 [some (.ref 0), some (.int v1), some (.int v2), some (.int v3)] [] Q)) : WM G jX10_fits [.ref 0, .int v1, .int v2, .int v3] h Q :=
  WM.body (ls := [some (.ref 0), some (.int v1), some (.int v2), some (.int v3)]) rfl (by decide +kernel) rfl (Nat.le_of_ble_eq_true rfl) rfl ((bX10_fits_0 hi  K))
theorem dX10_chord_0 : decode cX10_chord 0 = .ok (.iload_n 3, 1) := by decide +kernel
theorem dX10_chord_1 : decode cX10_chord 1 = .ok (.iconst 1, 1) := by decide +kernel
theorem dX10_chord_2 : decode cX10_chord 2 = .ok (.invokestatic 140, 3) := by decide +kernel
theorem dX10_chord_5 : decode cX10_chord 5 = .ok (.iload_n 1, 1) := by decide +kernel
theorem dX10_chord_6 : decode cX10_chord 6 = .ok (.iconst 1, 1) := by decide +kernel
theorem dX10_chord_7 : decode cX10_chord 7 = .ok (.bipush 12, 2) := by decide +kernel
theorem dX10_chord_9 : decode cX10_chord 9 = .ok (.invokestatic 284, 3) := by decide +kernel
theorem dX10_chord_12 : decode cX10_chord 12 = .ok (.iload_n 2, 1) := by decide +kernel
theorem dX10_chord_13 : decode cX10_chord 13 = .ok (.iconst 1, 1) := by decide +kernel
theorem dX10_chord_14 : decode cX10_chord 14 = .ok (.bipush 12, 2) := by decide +kernel
theorem dX10_chord_16 : decode cX10_chord 16 = .ok (.invokestatic 284, 3) := by decide +kernel
theorem dX10_chord_19 : decode cX10_chord 19 = .ok (.iconst (-1), 1) := by decide +kernel
theorem dX10_chord_20 : decode cX10_chord 20 = .ok (.istore 4, 2) := by decide +kernel
theorem dX10_chord_22 : decode cX10_chord 22 = .ok (.iconst (-1), 1) := by decide +kernel
theorem dX10_chord_23 : decode cX10_chord 23 = .ok (.istore 5, 2) := by decide +kernel
theorem dX10_chord_25 : decode cX10_chord 25 = .ok (.iconst 0, 1) := by decide +kernel
theorem dX10_chord_26 : decode cX10_chord 26 = .ok (.istore 6, 2) := by decide +kernel
theorem dX10_chord_28 : decode cX10_chord 28 = .ok (.iload 6, 2) := by decide +kernel
theorem dX10_chord_30 : decode cX10_chord 30 = .ok (.bipush 9, 2) := by decide +kernel
theorem dX10_chord_32 : decode cX10_chord 32 = .ok (.if_icmp .gt 128, 3) := by decide +kernel
theorem dX10_chord_35 : decode cX10_chord 35 = .ok (.iconst 0, 1) := by decide +kernel
theorem dX10_chord_36 : decode cX10_chord 36 = .ok (.istore 7, 2) := by decide +kernel
theorem dX10_chord_38 : decode cX10_chord 38 = .ok (.iload 7, 2) := by decide +kernel
theorem dX10_chord_40 : decode cX10_chord 40 = .ok (.bipush 9, 2) := by decide +kernel
theorem dX10_chord_42 : decode cX10_chord 42 = .ok (.if_icmp .gt 112, 3) := by decide +kernel
theorem dX10_chord_45 : decode cX10_chord 45 = .ok (.iload 6, 2) := by decide +kernel
theorem dX10_chord_47 : decode cX10_chord 47 = .ok (.aload_n 0, 1) := by decide +kernel
theorem dX10_chord_48 : decode cX10_chord 48 = .ok (.getfield 19, 3) := by decide +kernel
theorem dX10_chord_51 : decode cX10_chord 51 = .ok (.getfield 196, 3) := by decide +kernel
theorem dX10_chord_54 : decode cX10_chord 54 = .ok (.iconst 0, 1) := by decide +kernel
theorem dX10_chord_55 : decode cX10_chord 55 = .ok (.iaload, 1) := by decide +kernel
theorem dX10_chord_56 : decode cX10_chord 56 = .ok (.isub, 1) := by decide +kernel
theorem dX10_chord_57 : decode cX10_chord 57 = .ok (.invokestatic 247, 3) := by decide +kernel
theorem dX10_chord_60 : decode cX10_chord 60 = .ok (.iload 7, 2) := by decide +kernel
theorem dX10_chord_62 : decode cX10_chord 62 = .ok (.aload_n 0, 1) := by decide +kernel
theorem dX10_chord_63 : decode cX10_chord 63 = .ok (.getfield 19, 3) := by decide +kernel
theorem dX10_chord_66 : decode cX10_chord 66 = .ok (.getfield 196, 3) := by decide +kernel
theorem dX10_chord_69 : decode cX10_chord 69 = .ok (.iconst 2, 1) := by decide +kernel
theorem dX10_chord_70 : decode cX10_chord 70 = .ok (.iaload, 1) := by decide +kernel
theorem dX10_chord_71 : decode cX10_chord 71 = .ok (.isub, 1) := by decide +kernel
theorem dX10_chord_72 : decode cX10_chord 72 = .ok (.invokestatic 247, 3) := by decide +kernel
theorem dX10_chord_75 : decode cX10_chord 75 = .ok (.iadd, 1) := by decide +kernel
theorem dX10_chord_76 : decode cX10_chord 76 = .ok (.istore 8, 2) := by decide +kernel
theorem dX10_chord_78 : decode cX10_chord 78 = .ok (.aload_n 0, 1) := by decide +kernel
theorem dX10_chord_79 : decode cX10_chord 79 = .ok (.getfield 19, 3) := by decide +kernel
theorem dX10_chord_82 : decode cX10_chord 82 = .ok (.getfield 193, 3) := by decide +kernel
theorem dX10_chord_85 : decode cX10_chord 85 = .ok (.iconst 0, 1) := by decide +kernel
theorem dX10_chord_86 : decode cX10_chord 86 = .ok (.iaload, 1) := by decide +kernel
theorem dX10_chord_87 : decode cX10_chord 87 = .ok (.iload 6, 2) := by decide +kernel
theorem dX10_chord_89 : decode cX10_chord 89 = .ok (.iadd, 1) := by decide +kernel
theorem dX10_chord_90 : decode cX10_chord 90 = .ok (.iload_n 2, 1) := by decide +kernel
theorem dX10_chord_91 : decode cX10_chord 91 = .ok (.imul, 1) := by decide +kernel
theorem dX10_chord_92 : decode cX10_chord 92 = .ok (.aload_n 0, 1) := by decide +kernel
theorem dX10_chord_93 : decode cX10_chord 93 = .ok (.getfield 19, 3) := by decide +kernel
theorem dX10_chord_96 : decode cX10_chord 96 = .ok (.getfield 193, 3) := by decide +kernel
theorem dX10_chord_99 : decode cX10_chord 99 = .ok (.iconst 2, 1) := by decide +kernel
theorem dX10_chord_100 : decode cX10_chord 100 = .ok (.iaload, 1) := by decide +kernel
theorem dX10_chord_101 : decode cX10_chord 101 = .ok (.iload 7, 2) := by decide +kernel
theorem dX10_chord_103 : decode cX10_chord 103 = .ok (.iadd, 1) := by decide +kernel
theorem dX10_chord_104 : decode cX10_chord 104 = .ok (.iload_n 1, 1) := by decide +kernel
theorem dX10_chord_105 : decode cX10_chord 105 = .ok (.imul, 1) := by decide +kernel
theorem dX10_chord_106 : decode cX10_chord 106 = .ok (.if_icmp .ne 7, 3) := by decide +kernel
theorem dX10_chord_109 : decode cX10_chord 109 = .ok (.iconst 1, 1) := by decide +kernel
theorem dX10_chord_110 : decode cX10_chord 110 = .ok (.goto 4, 3) := by decide +kernel
theorem dX10_chord_113 : decode cX10_chord 113 = .ok (.iconst 0, 1) := by decide +kernel
theorem dX10_chord_114 : decode cX10_chord 114 = .ok (.istore 9, 2) := by decide +kernel
theorem dX10_chord_116 : decode cX10_chord 116 = .ok (.iload 9, 2) := by decide +kernel
theorem dX10_chord_118 : decode cX10_chord 118 = .ok (.ifCond .eq 30, 3) := by decide +kernel
theorem dX10_chord_121 : decode cX10_chord 121 = .ok (.iload 4, 2) := by decide +kernel
theorem dX10_chord_123 : decode cX10_chord 123 = .ok (.iconst (-1), 1) := by decide +kernel
theorem dX10_chord_124 : decode cX10_chord 124 = .ok (.if_icmp .eq 10, 3) := by decide +kernel
theorem dX10_chord_127 : decode cX10_chord 127 = .ok (.iload 8, 2) := by decide +kernel
theorem dX10_chord_129 : decode cX10_chord 129 = .ok (.iload 4, 2) := by decide +kernel
theorem dX10_chord_131 : decode cX10_chord 131 = .ok (.if_icmp .ge 17, 3) := by decide +kernel
theorem dX10_chord_134 : decode cX10_chord 134 = .ok (.iload 8, 2) := by decide +kernel
theorem dX10_chord_136 : decode cX10_chord 136 = .ok (.istore 4, 2) := by decide +kernel
theorem dX10_chord_138 : decode cX10_chord 138 = .ok (.bipush 10, 2) := by decide +kernel
theorem dX10_chord_140 : decode cX10_chord 140 = .ok (.iload 6, 2) := by decide +kernel
theorem dX10_chord_142 : decode cX10_chord 142 = .ok (.imul, 1) := by decide +kernel
theorem dX10_chord_143 : decode cX10_chord 143 = .ok (.iload 7, 2) := by decide +kernel
theorem dX10_chord_145 : decode cX10_chord 145 = .ok (.iadd, 1) := by decide +kernel
theorem dX10_chord_146 : decode cX10_chord 146 = .ok (.istore 5, 2) := by decide +kernel
theorem dX10_chord_148 : decode cX10_chord 148 = .ok (.iinc 7 1, 3) := by decide +kernel
theorem dX10_chord_151 : decode cX10_chord 151 = .ok (.goto (-113), 3) := by decide +kernel
theorem dX10_chord_154 : decode cX10_chord 154 = .ok (.iinc 6 1, 3) := by decide +kernel
theorem dX10_chord_157 : decode cX10_chord 157 = .ok (.goto (-129), 3) := by decide +kernel
theorem dX10_chord_160 : decode cX10_chord 160 = .ok (.iload_n 3, 1) := by decide +kernel
theorem dX10_chord_161 : decode cX10_chord 161 = .ok (.ifCond .ne 8, 3) := by decide +kernel
theorem dX10_chord_164 : decode cX10_chord 164 = .ok (.iload 4, 2) := by decide +kernel
theorem dX10_chord_166 : decode cX10_chord 166 = .ok (.goto 5, 3) := by decide +kernel
theorem dX10_chord_169 : decode cX10_chord 169 = .ok (.iload 5, 2) := by decide +kernel
theorem dX10_chord_171 : decode cX10_chord 171 = .ok (.ireturn, 1) := by decide +kernel
theorem bX10_chord_0 {G : GX} {h : mH} {Q : mO → mH → Prop} {v1 : Int32} {v2 : Int32} {v3 : Int32} (hi : Iv h) (K : WM G jX10_needWhat [.int v3, .int 1] h (Aft G jX10_chord 2 [some (.ref 0), some (.int v1), some (.int v2), some (.int v3), none, none, none, none, none, none] [] Q)) : Vw G jX10_chord 0 [some (.ref 0), some (.int v1), some (.int v2), some (.int v3), none, none, none, none, none, none] [] h Q :=
  s_iload_n dX10_chord_0 rfl (s_iconst 1 dX10_chord_1 (by decide) (s_callS (As := [.int v3, .int 1]) dX10_chord_2 rfl lsX10_140 ⟨Nat.le_of_ble_eq_true rfl, Nat.le_of_ble_eq_true rfl⟩ rfl (Nat.le_of_ble_eq_true rfl) (K)))
theorem bX10_chord_5 {G : GX} {h : mH} {Q : mO → mH → Prop} {v1 : Int32} {v2 : Int32} {v3 : Int32} (hi : Iv h) (K : WM G jX10_needWithin [.int v1, .int 1, .int 12] h (Aft G jX10_chord 9 [some (.ref 0), some (.int v1), some (.int v2), some (.int v3), none, none, none, none, none, none] [] Q)) : Vw G jX10_chord 5 [some (.ref 0), some (.int v1), some (.int v2), some (.int v3), none, none, none, none, none, none] [] h Q :=
  s_iload_n dX10_chord_5 rfl (s_iconst 1 dX10_chord_6 (by decide) (s_bipush 12 dX10_chord_7 (by decide) (s_callS (As := [.int v1, .int 1, .int 12]) dX10_chord_9 rfl lsX10_284 ⟨Nat.le_of_ble_eq_true rfl, Nat.le_of_ble_eq_true rfl⟩ rfl (Nat.le_of_ble_eq_true rfl) (K))))
theorem bX10_chord_12 {G : GX} {h : mH} {Q : mO → mH → Prop} {v1 : Int32} {v2 : Int32} {v3 : Int32} (hi : Iv h) (K : WM G jX10_needWithin [.int v2, .int 1, .int 12] h (Aft G jX10_chord 16 [some (.ref 0), some (.int v1), some (.int v2), some (.int v3), none, none, none, none, none, none] [] Q)) : Vw G jX10_chord 12 [some (.ref 0), some (.int v1), some (.int v2), some (.int v3), none, none, none, none, none, none] [] h Q :=
  s_iload_n dX10_chord_12 rfl (s_iconst 1 dX10_chord_13 (by decide) (s_bipush 12 dX10_chord_14 (by decide) (s_callS (As := [.int v2, .int 1, .int 12]) dX10_chord_16 rfl lsX10_284 ⟨Nat.le_of_ble_eq_true rfl, Nat.le_of_ble_eq_true rfl⟩ rfl (Nat.le_of_ble_eq_true rfl) (K))))
theorem bX10_chord_19 {G : GX} {h : mH} {Q : mO → mH → Prop} {v1 : Int32} {v2 : Int32} {v3 : Int32} (hi : Iv h) (K : Vw G jX10_chord 28 [some (.ref 0), some (.int v1), some (.int v2), some (.int v3), some (.int (-1)), some (.int (-1)), some (.int 0), none, none, none] [] h Q) : Vw G jX10_chord 19 [some (.ref 0), some (.int v1), some (.int v2), some (.int v3), none, none, none, none, none, none] [] h Q :=
  s_iconst (-1) dX10_chord_19 (by decide) (s_istore dX10_chord_20 (Nat.le_of_ble_eq_true rfl) rfl (s_iconst (-1) dX10_chord_22 (by decide) (s_istore dX10_chord_23 (Nat.le_of_ble_eq_true rfl) rfl (s_iconst 0 dX10_chord_25 (by decide) (s_istore dX10_chord_26 (Nat.le_of_ble_eq_true rfl) rfl (K))))))
theorem bX10_chord_28 {G : GX} {h : mH} {Q : mO → mH → Prop} {v1 : Int32} {v2 : Int32} {v3 : Int32} {v4 : Int32} {v5 : Int32} {v6 : Int32} (hi : Iv h) (K : (9 < v6 → ((¬ v3 = 0 → Q (.inl (some (.int v5))) h) ∧ (v3 = 0 → Q (.inl (some (.int v4))) h))) ∧ (¬ 9 < v6 → Vw G jX10_chord 38 [some (.ref 0), some (.int v1), some (.int v2), some (.int v3), some (.int v4), some (.int v5), some (.int v6), some (.int 0), none, none] [] h Q)) : Vw G jX10_chord 28 [some (.ref 0), some (.int v1), some (.int v2), some (.int v3), some (.int v4), some (.int v5), some (.int v6), none, none, none] [] h Q :=
  s_iload dX10_chord_28 rfl (s_bipush 9 dX10_chord_30 (by decide) (s_icmp_gt 160 dX10_chord_32 rfl (fun q2 => s_iload_n dX10_chord_160 rfl (s_if_ne 169 dX10_chord_161 rfl (fun q4 => s_iload dX10_chord_169 rfl (s_ireturn dX10_chord_171 rfl ((K.1 q2).1 q4))) (fun q4 => s_iload dX10_chord_164 rfl (s_goto 171 dX10_chord_166 rfl (s_ireturn dX10_chord_171 rfl ((K.1 q2).2 q4)))))) (fun q2 => s_iconst 0 dX10_chord_35 (by decide) (s_istore dX10_chord_36 (Nat.le_of_ble_eq_true rfl) rfl ((K.2 q2))))))
theorem bX10_chord_38 {G : GX} {h : mH} {Q : mO → mH → Prop} {v1 : Int32} {v2 : Int32} {v3 : Int32} {v4 : Int32} {v5 : Int32} {v6 : Int32} {v7 : Int32} (hi : Iv h) (K : (9 < v7 → Vw G jX10_chord 28 [some (.ref 0), some (.int v1), some (.int v2), some (.int v3), some (.int v4), some (.int v5), some (.int (v6 + 1)), none, none, none] [] h Q) ∧ (¬ 9 < v7 → ((¬ (((gI h 5 0) + v6) * v2) = (((gI h 5 2) + v7) * v1) → Vw G jX10_chord 148 [some (.ref 0), some (.int v1), some (.int v2), some (.int v3), some (.int v4), some (.int v5), some (.int v6), some (.int v7), none, none] [] h Q) ∧ ((((gI h 5 0) + v6) * v2) = (((gI h 5 2) + v7) * v1) → ((v4 = (-1) → Vw G jX10_chord 134 [some (.ref 0), some (.int v1), some (.int v2), some (.int v3), none, none, some (.int v6), some (.int v7), some (.int ((fJ9_abs_0f7a4 (v6 - (gI h 7 0))) + (fJ9_abs_0f7a4 (v7 - (gI h 7 2))))), none] [] h Q) ∧ (¬ v4 = (-1) → ((v4 ≤ ((fJ9_abs_0f7a4 (v6 - (gI h 7 0))) + (fJ9_abs_0f7a4 (v7 - (gI h 7 2)))) → Vw G jX10_chord 148 [some (.ref 0), some (.int v1), some (.int v2), some (.int v3), some (.int v4), some (.int v5), some (.int v6), some (.int v7), none, none] [] h Q) ∧ (¬ v4 ≤ ((fJ9_abs_0f7a4 (v6 - (gI h 7 0))) + (fJ9_abs_0f7a4 (v7 - (gI h 7 2)))) → Vw G jX10_chord 134 [some (.ref 0), some (.int v1), some (.int v2), some (.int v3), none, none, some (.int v6), some (.int v7), some (.int ((fJ9_abs_0f7a4 (v6 - (gI h 7 0))) + (fJ9_abs_0f7a4 (v7 - (gI h 7 2))))), none] [] h Q)))))))) : Vw G jX10_chord 38 [some (.ref 0), some (.int v1), some (.int v2), some (.int v3), some (.int v4), some (.int v5), some (.int v6), some (.int v7), none, none] [] h Q :=
  s_iload dX10_chord_38 rfl (s_bipush 9 dX10_chord_40 (by decide) (s_icmp_gt 154 dX10_chord_42 rfl (fun q2 => s_iinc 1 dX10_chord_154 rfl (by decide) (Nat.le_of_ble_eq_true rfl) rfl (s_goto 28 dX10_chord_157 rfl (Vw.mask [true, true, true, true, true, true, true, false, false, false] ((K.1 q2))))) (fun q2 => s_iload dX10_chord_45 rfl (s_aload_n dX10_chord_47 rfl (s_getR (v := .ref 3) dX10_chord_48 flX10_19 rfl (hi.sh rfl rfl) (hi.rf (o := 0) (k := 1) (d := 3) rfl rfl) (s_getR (v := .ref 7) dX10_chord_51 flX10_196 rfl (hi.sh rfl rfl) (hi.rf (o := 3) (k := 3) (d := 4) rfl rfl) (s_iconst 0 dX10_chord_54 (by decide) (s_iaload dX10_chord_55 (hi.sh rfl rfl) (by unfold vp_in; decide) (s_isub dX10_chord_56 (s_callS (As := [.int (v6 - (gI h 7 0))]) dX10_chord_57 rfl lsX10_247 ⟨Nat.le_of_ble_eq_true rfl, Nat.le_of_ble_eq_true rfl⟩ rfl (Nat.le_of_ble_eq_true rfl) (mJ9_abs_0f7a4   (s_iload dX10_chord_60 rfl (s_aload_n dX10_chord_62 rfl (s_getR (v := .ref 3) dX10_chord_63 flX10_19 rfl (hi.sh rfl rfl) (hi.rf (o := 0) (k := 1) (d := 3) rfl rfl) (s_getR (v := .ref 7) dX10_chord_66 flX10_196 rfl (hi.sh rfl rfl) (hi.rf (o := 3) (k := 3) (d := 4) rfl rfl) (s_iconst 2 dX10_chord_69 (by decide) (s_iaload dX10_chord_70 (hi.sh rfl rfl) (by unfold vp_in; decide) (s_isub dX10_chord_71 (s_callS (As := [.int (v7 - (gI h 7 2))]) dX10_chord_72 rfl lsX10_247 ⟨Nat.le_of_ble_eq_true rfl, Nat.le_of_ble_eq_true rfl⟩ rfl (Nat.le_of_ble_eq_true rfl) (mJ9_abs_0f7a4   (s_iadd dX10_chord_75 (s_istore dX10_chord_76 (Nat.le_of_ble_eq_true rfl) rfl (s_aload_n dX10_chord_78 rfl (s_getR (v := .ref 3) dX10_chord_79 flX10_19 rfl (hi.sh rfl rfl) (hi.rf (o := 0) (k := 1) (d := 3) rfl rfl) (s_getR (v := .ref 5) dX10_chord_82 flX10_193 rfl (hi.sh rfl rfl) (hi.rf (o := 3) (k := 1) (d := 2) rfl rfl) (s_iconst 0 dX10_chord_85 (by decide) (s_iaload dX10_chord_86 (hi.sh rfl rfl) (by unfold vp_in; decide) (s_iload dX10_chord_87 rfl (s_iadd dX10_chord_89 (s_iload_n dX10_chord_90 rfl (s_imul dX10_chord_91 (s_aload_n dX10_chord_92 rfl (s_getR (v := .ref 3) dX10_chord_93 flX10_19 rfl (hi.sh rfl rfl) (hi.rf (o := 0) (k := 1) (d := 3) rfl rfl) (s_getR (v := .ref 5) dX10_chord_96 flX10_193 rfl (hi.sh rfl rfl) (hi.rf (o := 3) (k := 1) (d := 2) rfl rfl) (s_iconst 2 dX10_chord_99 (by decide) (s_iaload dX10_chord_100 (hi.sh rfl rfl) (by unfold vp_in; decide) (s_iload dX10_chord_101 rfl (s_iadd dX10_chord_103 (s_iload_n dX10_chord_104 rfl (s_imul dX10_chord_105 (s_icmp_ne 113 dX10_chord_106 rfl (fun q39 => s_iconst 0 dX10_chord_113 (by decide) (s_istore dX10_chord_114 (Nat.le_of_ble_eq_true rfl) rfl (s_iload dX10_chord_116 rfl (s_if_eq 148 dX10_chord_118 rfl (fun _ => Vw.mask [true, true, true, true, true, true, true, true, false, false] (((K.2 q2).1 q39))) (fun q => absurd (by decide) q))))) (fun q39 => s_iconst 1 dX10_chord_109 (by decide) (s_goto 114 dX10_chord_110 rfl (s_istore dX10_chord_114 (Nat.le_of_ble_eq_true rfl) rfl (s_iload dX10_chord_116 rfl (s_if_eq 148 dX10_chord_118 rfl (fun q => absurd q (by decide)) (fun _ => s_iload dX10_chord_121 rfl (s_iconst (-1) dX10_chord_123 (by decide) (s_icmp_eq 134 dX10_chord_124 rfl (fun q47 => Vw.mask [true, true, true, true, false, false, true, true, true, false] ((((K.2 q2).2 q39).1 q47))) (fun q47 => s_iload dX10_chord_127 rfl (s_iload dX10_chord_129 rfl (s_icmp_ge 148 dX10_chord_131 rfl (fun q50 => Vw.mask [true, true, true, true, true, true, true, true, false, false] (((((K.2 q2).2 q39).2 q47).1 q50))) (fun q50 => Vw.mask [true, true, true, true, false, false, true, true, true, false] (((((K.2 q2).2 q39).2 q47).2 q50)))))))))))))))))))))))))))))))))))))))))))))))))))))))
theorem bX10_chord_134 {G : GX} {h : mH} {Q : mO → mH → Prop} {v1 : Int32} {v2 : Int32} {v3 : Int32} {v6 : Int32} {v7 : Int32} {v8 : Int32} (hi : Iv h) (K : Vw G jX10_chord 148 [some (.ref 0), some (.int v1), some (.int v2), some (.int v3), some (.int v8), some (.int ((10 * v6) + v7)), some (.int v6), some (.int v7), none, none] [] h Q) : Vw G jX10_chord 134 [some (.ref 0), some (.int v1), some (.int v2), some (.int v3), none, none, some (.int v6), some (.int v7), some (.int v8), none] [] h Q :=
  s_iload dX10_chord_134 rfl (s_istore dX10_chord_136 (Nat.le_of_ble_eq_true rfl) rfl (s_bipush 10 dX10_chord_138 (by decide) (s_iload dX10_chord_140 rfl (s_imul dX10_chord_142 (s_iload dX10_chord_143 rfl (s_iadd dX10_chord_145 (s_istore dX10_chord_146 (Nat.le_of_ble_eq_true rfl) rfl (Vw.mask [true, true, true, true, true, true, true, true, false, false] (K)))))))))
theorem bX10_chord_148 {G : GX} {h : mH} {Q : mO → mH → Prop} {v1 : Int32} {v2 : Int32} {v3 : Int32} {v4 : Int32} {v5 : Int32} {v6 : Int32} {v7 : Int32} (hi : Iv h) (K : Vw G jX10_chord 38 [some (.ref 0), some (.int v1), some (.int v2), some (.int v3), some (.int v4), some (.int v5), some (.int v6), some (.int (v7 + 1)), none, none] [] h Q) : Vw G jX10_chord 148 [some (.ref 0), some (.int v1), some (.int v2), some (.int v3), some (.int v4), some (.int v5), some (.int v6), some (.int v7), none, none] [] h Q :=
  s_iinc 1 dX10_chord_148 rfl (by decide) (Nat.le_of_ble_eq_true rfl) rfl (s_goto 38 dX10_chord_151 rfl (K))
theorem eX10_chord {G : GX} {h : mH} {Q : mO → mH → Prop} {v1 : Int32} {v2 : Int32} {v3 : Int32} (hi : Iv h) (K : WM G jX10_needWhat [.int v3, .int 1] h (Aft G jX10_chord 2 [some (.ref 0), some (.int v1), some (.int v2), some (.int v3), none, none, none, none, none, none] [] Q)) : WM G jX10_chord [.ref 0, .int v1, .int v2, .int v3] h Q :=
  WM.body (ls := [some (.ref 0), some (.int v1), some (.int v2), some (.int v3), none, none, none, none, none, none]) rfl (by decide +kernel) rfl (Nat.le_of_ble_eq_true rfl) rfl ((bX10_chord_0 hi  K))
theorem dX10_cart_0 : decode cX10_cart 0 = .ok (.iload_n 1, 1) := by decide +kernel
theorem dX10_cart_1 : decode cX10_cart 1 = .ok (.iconst 3, 1) := by decide +kernel
theorem dX10_cart_2 : decode cX10_cart 2 = .ok (.invokestatic 140, 3) := by decide +kernel
theorem dX10_cart_5 : decode cX10_cart 5 = .ok (.aload_n 0, 1) := by decide +kernel
theorem dX10_cart_6 : decode cX10_cart 6 = .ok (.getfield 70, 3) := by decide +kernel
theorem dX10_cart_9 : decode cX10_cart 9 = .ok (.aload_n 0, 1) := by decide +kernel
theorem dX10_cart_10 : decode cX10_cart 10 = .ok (.getfield 19, 3) := by decide +kernel
theorem dX10_cart_13 : decode cX10_cart 13 = .ok (.aload_n 0, 1) := by decide +kernel
theorem dX10_cart_14 : decode cX10_cart 14 = .ok (.getfield 32, 3) := by decide +kernel
theorem dX10_cart_17 : decode cX10_cart 17 = .ok (.invokevirtual 304, 3) := by decide +kernel
theorem dX10_cart_20 : decode cX10_cart 20 = .ok (.iload_n 1, 1) := by decide +kernel
theorem dX10_cart_21 : decode cX10_cart 21 = .ok (.tableswitch 51 0 2 #[27, 35, 43], 27) := by decide +kernel
theorem dX10_cart_48 : decode cX10_cart 48 = .ok (.aload_n 0, 1) := by decide +kernel
theorem dX10_cart_49 : decode cX10_cart 49 = .ok (.getfield 70, 3) := by decide +kernel
theorem dX10_cart_52 : decode cX10_cart 52 = .ok (.getfield 308, 3) := by decide +kernel
theorem dX10_cart_55 : decode cX10_cart 55 = .ok (.ireturn, 1) := by decide +kernel
theorem dX10_cart_56 : decode cX10_cart 56 = .ok (.aload_n 0, 1) := by decide +kernel
theorem dX10_cart_57 : decode cX10_cart 57 = .ok (.getfield 70, 3) := by decide +kernel
theorem dX10_cart_60 : decode cX10_cart 60 = .ok (.getfield 311, 3) := by decide +kernel
theorem dX10_cart_63 : decode cX10_cart 63 = .ok (.ireturn, 1) := by decide +kernel
theorem dX10_cart_64 : decode cX10_cart 64 = .ok (.aload_n 0, 1) := by decide +kernel
theorem dX10_cart_65 : decode cX10_cart 65 = .ok (.getfield 70, 3) := by decide +kernel
theorem dX10_cart_68 : decode cX10_cart 68 = .ok (.getfield 314, 3) := by decide +kernel
theorem dX10_cart_71 : decode cX10_cart 71 = .ok (.ireturn, 1) := by decide +kernel
theorem dX10_cart_72 : decode cX10_cart 72 = .ok (.aload_n 0, 1) := by decide +kernel
theorem dX10_cart_73 : decode cX10_cart 73 = .ok (.getfield 70, 3) := by decide +kernel
theorem dX10_cart_76 : decode cX10_cart 76 = .ok (.getfield 317, 3) := by decide +kernel
theorem dX10_cart_79 : decode cX10_cart 79 = .ok (.ireturn, 1) := by decide +kernel
theorem bX10_cart_0 {G : GX} {h : mH} {Q : mO → mH → Prop} {v1 : Int32} (hi : Iv h) (K : WM G jX10_needWhat [.int v1, .int 3] h (Aft G jX10_cart 2 [some (.ref 0), some (.int v1)] [] Q)) : Vw G jX10_cart 0 [some (.ref 0), some (.int v1)] [] h Q :=
  s_iload_n dX10_cart_0 rfl (s_iconst 3 dX10_cart_1 (by decide) (s_callS (As := [.int v1, .int 3]) dX10_cart_2 rfl lsX10_140 ⟨Nat.le_of_ble_eq_true rfl, Nat.le_of_ble_eq_true rfl⟩ rfl (Nat.le_of_ble_eq_true rfl) (K)))
theorem bX10_cart_5 {G : GX} {h : mH} {Q : mO → mH → Prop} {v1 : Int32} (hi : Iv h) (K : WM G jX1_findCart [.ref 71, .ref 3, .ref 33] h (Aft G jX10_cart 17 [some (.ref 0), some (.int v1)] [] Q)) : Vw G jX10_cart 5 [some (.ref 0), some (.int v1)] [] h Q :=
  s_aload_n dX10_cart_5 rfl (s_getR (v := .ref 71) dX10_cart_6 flX10_70 rfl (hi.sh rfl rfl) (hi.rf (o := 0) (k := 11) (d := 71) rfl rfl) (s_aload_n dX10_cart_9 rfl (s_getR (v := .ref 3) dX10_cart_10 flX10_19 rfl (hi.sh rfl rfl) (hi.rf (o := 0) (k := 1) (d := 3) rfl rfl) (s_aload_n dX10_cart_13 rfl (s_getR (v := .ref 33) dX10_cart_14 flX10_32 rfl (hi.sh rfl rfl) (hi.rf (o := 0) (k := 4) (d := 33) rfl rfl) (s_callV (As := [.ref 3, .ref 33]) dX10_cart_17 rfl lvX10_304 ⟨Nat.le_of_ble_eq_true rfl, Nat.le_of_ble_eq_true rfl⟩ (hi.sh rfl rfl) ⟨_, _, by decide, rfl⟩ rfl (Nat.le_of_ble_eq_true rfl) (K)))))))
theorem bX10_cart_20 {G : GX} {h : mH} {Q : mO → mH → Prop} {v1 : Int32} (hi : Iv h) (K : (v1 = 0 → Q (.inl (some (.int (gI h 71 4)))) h) ∧ (v1 = 1 → Q (.inl (some (.int (gI h 71 5)))) h) ∧ (v1 = 2 → Q (.inl (some (.int (gI h 71 6)))) h) ∧ (¬ v1 = 0 → ¬ v1 = 1 → ¬ v1 = 2 → Q (.inl (some (.int (gI h 71 7)))) h)) : Vw G jX10_cart 20 [some (.ref 0), some (.int v1)] [] h Q :=
  s_iload_n dX10_cart_20 rfl (Decidable.byCases (fun e1_0 => s_tableIn 48 dX10_cart_21 (by rw [e1_0] <;> decide) (by rw [e1_0] <;> decide) (by rw [e1_0] <;> rfl) rfl (s_aload_n dX10_cart_48 rfl (s_getR (v := .ref 71) dX10_cart_49 flX10_70 rfl (hi.sh rfl rfl) (hi.rf (o := 0) (k := 11) (d := 71) rfl rfl) (s_getI dX10_cart_52 flX10_308 (Or.inl rfl) (hi.sh rfl rfl) (s_ireturn dX10_cart_55 rfl (K.1 e1_0)))))) (fun e1_0 => Decidable.byCases (fun e1_1 => s_tableIn 56 dX10_cart_21 (by rw [e1_1] <;> decide) (by rw [e1_1] <;> decide) (by rw [e1_1] <;> rfl) rfl (s_aload_n dX10_cart_56 rfl (s_getR (v := .ref 71) dX10_cart_57 flX10_70 rfl (hi.sh rfl rfl) (hi.rf (o := 0) (k := 11) (d := 71) rfl rfl) (s_getI dX10_cart_60 flX10_311 (Or.inl rfl) (hi.sh rfl rfl) (s_ireturn dX10_cart_63 rfl (K.2.1 e1_1)))))) (fun e1_1 => Decidable.byCases (fun e1_2 => s_tableIn 64 dX10_cart_21 (by rw [e1_2] <;> decide) (by rw [e1_2] <;> decide) (by rw [e1_2] <;> rfl) rfl (s_aload_n dX10_cart_64 rfl (s_getR (v := .ref 71) dX10_cart_65 flX10_70 rfl (hi.sh rfl rfl) (hi.rf (o := 0) (k := 11) (d := 71) rfl rfl) (s_getI dX10_cart_68 flX10_314 (Or.inl rfl) (hi.sh rfl rfl) (s_ireturn dX10_cart_71 rfl (K.2.2.1 e1_2)))))) (fun e1_2 => s_tableOut 72 dX10_cart_21 (sw_out [0, 1, 2] (by simp only [List.forall_mem_cons]; exact ⟨e1_0, e1_1, e1_2, fun _ hh => nomatch hh⟩) (fun k z1 z2 => by rcases (show k = 0 ∨ k = 1 ∨ k = 2 by omega) with rfl | rfl | rfl <;> decide)) rfl (s_aload_n dX10_cart_72 rfl (s_getR (v := .ref 71) dX10_cart_73 flX10_70 rfl (hi.sh rfl rfl) (hi.rf (o := 0) (k := 11) (d := 71) rfl rfl) (s_getI dX10_cart_76 flX10_317 (Or.inl rfl) (hi.sh rfl rfl) (s_ireturn dX10_cart_79 rfl (K.2.2.2 e1_0 e1_1 e1_2)))))))))
theorem eX10_cart {G : GX} {h : mH} {Q : mO → mH → Prop} {v1 : Int32} (hi : Iv h) (K : WM G jX10_needWhat [.int v1, .int 3] h (Aft G jX10_cart 2 [some (.ref 0), some (.int v1)] [] Q)) : WM G jX10_cart [.ref 0, .int v1] h Q :=
  WM.body (ls := [some (.ref 0), some (.int v1)]) rfl (by decide +kernel) rfl (Nat.le_of_ble_eq_true rfl) rfl ((bX10_cart_0 hi  K))
theorem dX10_birthday_0 : decode cX10_birthday 0 = .ok (.aload_n 0, 1) := by decide +kernel
theorem dX10_birthday_1 : decode cX10_birthday 1 = .ok (.getfield 32, 3) := by decide +kernel
theorem dX10_birthday_4 : decode cX10_birthday 4 = .ok (.getfield 184, 3) := by decide +kernel
theorem dX10_birthday_7 : decode cX10_birthday 7 = .ok (.bipush 10, 2) := by decide +kernel
theorem dX10_birthday_9 : decode cX10_birthday 9 = .ok (.if_icmp .ge 14, 3) := by decide +kernel
theorem dX10_birthday_12 : decode cX10_birthday 12 = .ok (.iload_n 1, 1) := by decide +kernel
theorem dX10_birthday_13 : decode cX10_birthday 13 = .ok (.ifCond .lt 10, 3) := by decide +kernel
theorem dX10_birthday_16 : decode cX10_birthday 16 = .ok (.iload_n 1, 1) := by decide +kernel
theorem dX10_birthday_17 : decode cX10_birthday 17 = .ok (.sipush 364, 3) := by decide +kernel
theorem dX10_birthday_20 : decode cX10_birthday 20 = .ok (.if_icmp .le 9, 3) := by decide +kernel
theorem dX10_birthday_23 : decode cX10_birthday 23 = .ok (.aload_n 0, 1) := by decide +kernel
theorem dX10_birthday_24 : decode cX10_birthday 24 = .ok (.iconst 4, 1) := by decide +kernel
theorem dX10_birthday_25 : decode cX10_birthday 25 = .ok (.invokevirtual 209, 3) := by decide +kernel
theorem dX10_birthday_28 : decode cX10_birthday 28 = .ok (.ireturn, 1) := by decide +kernel
theorem dX10_birthday_29 : decode cX10_birthday 29 = .ok (.aload_n 0, 1) := by decide +kernel
theorem dX10_birthday_30 : decode cX10_birthday 30 = .ok (.getfield 32, 3) := by decide +kernel
theorem dX10_birthday_33 : decode cX10_birthday 33 = .ok (.getfield 320, 3) := by decide +kernel
theorem dX10_birthday_36 : decode cX10_birthday 36 = .ok (.aload_n 0, 1) := by decide +kernel
theorem dX10_birthday_37 : decode cX10_birthday 37 = .ok (.getfield 32, 3) := by decide +kernel
theorem dX10_birthday_40 : decode cX10_birthday 40 = .ok (.getfield 184, 3) := by decide +kernel
theorem dX10_birthday_43 : decode cX10_birthday 43 = .ok (.iload_n 1, 1) := by decide +kernel
theorem dX10_birthday_44 : decode cX10_birthday 44 = .ok (.iastore, 1) := by decide +kernel
theorem dX10_birthday_45 : decode cX10_birthday 45 = .ok (.aload_n 0, 1) := by decide +kernel
theorem dX10_birthday_46 : decode cX10_birthday 46 = .ok (.getfield 32, 3) := by decide +kernel
theorem dX10_birthday_49 : decode cX10_birthday 49 = .ok (.dup, 1) := by decide +kernel
theorem dX10_birthday_50 : decode cX10_birthday 50 = .ok (.getfield 184, 3) := by decide +kernel
theorem dX10_birthday_53 : decode cX10_birthday 53 = .ok (.iconst 1, 1) := by decide +kernel
theorem dX10_birthday_54 : decode cX10_birthday 54 = .ok (.iadd, 1) := by decide +kernel
theorem dX10_birthday_55 : decode cX10_birthday 55 = .ok (.putfield 184, 3) := by decide +kernel
theorem dX10_birthday_58 : decode cX10_birthday 58 = .ok (.aload_n 0, 1) := by decide +kernel
theorem dX10_birthday_59 : decode cX10_birthday 59 = .ok (.dup, 1) := by decide +kernel
theorem dX10_birthday_60 : decode cX10_birthday 60 = .ok (.getfield 95, 3) := by decide +kernel
theorem dX10_birthday_63 : decode cX10_birthday 63 = .ok (.iconst 1, 1) := by decide +kernel
theorem dX10_birthday_64 : decode cX10_birthday 64 = .ok (.iadd, 1) := by decide +kernel
theorem dX10_birthday_65 : decode cX10_birthday 65 = .ok (.putfield 95, 3) := by decide +kernel
theorem dX10_birthday_68 : decode cX10_birthday 68 = .ok (.aload_n 0, 1) := by decide +kernel
theorem dX10_birthday_69 : decode cX10_birthday 69 = .ok (.getfield 32, 3) := by decide +kernel
theorem dX10_birthday_72 : decode cX10_birthday 72 = .ok (.getfield 184, 3) := by decide +kernel
theorem dX10_birthday_75 : decode cX10_birthday 75 = .ok (.ireturn, 1) := by decide +kernel
theorem bX10_birthday_0 {G : GX} {h : mH} {Q : mO → mH → Prop} {v1 : Int32} (hi : Iv h) (K : (10 ≤ (gI h 33 5) → Vw G jX10_birthday 23 [some (.ref 0), none] [] h Q) ∧ (¬ 10 ≤ (gI h 33 5) → ((v1 < 0 → Vw G jX10_birthday 23 [some (.ref 0), none] [] h Q) ∧ (¬ v1 < 0 → ((v1 ≤ 364 → (vp_in (gI h 33 5) 10 ∧ Q (.inl (some (.int (gI (pI (pI (pI h 37 (Int32.toNatClampNeg (gI h 33 5)) v1) 33 5 ((gI (pI h 37 (Int32.toNatClampNeg (gI h 33 5)) v1) 33 5) + 1)) 0 16 ((gI (pI (pI h 37 (Int32.toNatClampNeg (gI h 33 5)) v1) 33 5 ((gI (pI h 37 (Int32.toNatClampNeg (gI h 33 5)) v1) 33 5) + 1)) 0 16) + 1)) 33 5)))) (pI (pI (pI h 37 (Int32.toNatClampNeg (gI h 33 5)) v1) 33 5 ((gI (pI h 37 (Int32.toNatClampNeg (gI h 33 5)) v1) 33 5) + 1)) 0 16 ((gI (pI (pI h 37 (Int32.toNatClampNeg (gI h 33 5)) v1) 33 5 ((gI (pI h 37 (Int32.toNatClampNeg (gI h 33 5)) v1) 33 5) + 1)) 0 16) + 1)))) ∧ (¬ v1 ≤ 364 → Vw G jX10_birthday 23 [some (.ref 0), none] [] h Q)))))) : Vw G jX10_birthday 0 [some (.ref 0), some (.int v1)] [] h Q :=
  s_aload_n dX10_birthday_0 rfl (s_getR (v := .ref 33) dX10_birthday_1 flX10_32 rfl (hi.sh rfl rfl) (hi.rf (o := 0) (k := 4) (d := 33) rfl rfl) (s_getI dX10_birthday_4 flX10_184 (Or.inl rfl) (hi.sh rfl rfl) (s_bipush 10 dX10_birthday_7 (by decide) (s_icmp_ge 23 dX10_birthday_9 rfl (fun q4 => Vw.mask [true, false] ((K.1 q4))) (fun q4 => s_iload_n dX10_birthday_12 rfl (s_if_lt 23 dX10_birthday_13 rfl (fun q6 => Vw.mask [true, false] (((K.2 q4).1 q6))) (fun q6 => s_iload_n dX10_birthday_16 rfl (s_sipush 364 dX10_birthday_17 (by decide) (s_icmp_le 29 dX10_birthday_20 rfl (fun q9 => s_aload_n dX10_birthday_29 rfl (s_getR (v := .ref 33) dX10_birthday_30 flX10_32 rfl (hi.sh rfl rfl) (hi.rf (o := 0) (k := 4) (d := 33) rfl rfl) (s_getR (v := .ref 37) dX10_birthday_33 flX10_320 rfl (hi.sh rfl rfl) (hi.rf (o := 33) (k := 6) (d := 4) rfl rfl) (s_aload_n dX10_birthday_36 rfl (s_getR (v := .ref 33) dX10_birthday_37 flX10_32 rfl (hi.sh rfl rfl) (hi.rf (o := 0) (k := 4) (d := 33) rfl rfl) (s_getI dX10_birthday_40 flX10_184 (Or.inl rfl) (hi.sh rfl rfl) (s_iload_n dX10_birthday_43 rfl (s_iastore dX10_birthday_44 (hi.sh rfl rfl) (((K.2 q4).2 q6).1 q9).1 (s_aload_n dX10_birthday_45 rfl (s_getR (v := .ref 33) dX10_birthday_46 flX10_32 rfl (hi.sh rfl rfl) (hi.rf (o := 0) (k := 4) (d := 33) rfl rfl) (s_dupr dX10_birthday_49 (s_getI dX10_birthday_50 flX10_184 (Or.inl rfl) (hi.sh rfl rfl) (s_iconst 1 dX10_birthday_53 (by decide) (s_iadd dX10_birthday_54 (s_putI dX10_birthday_55 flX10_184 ff3_5 rfl (hi.sh rfl rfl) (s_aload_n dX10_birthday_58 rfl (s_dupr dX10_birthday_59 (s_getI dX10_birthday_60 flX10_95 (Or.inl rfl) (hi.sh rfl rfl) (s_iconst 1 dX10_birthday_63 (by decide) (s_iadd dX10_birthday_64 (s_putI dX10_birthday_65 flX10_95 ff9_16 rfl (hi.sh rfl rfl) (s_aload_n dX10_birthday_68 rfl (s_getR (v := .ref 33) dX10_birthday_69 flX10_32 rfl (hi.sh rfl rfl) (hi.rf (o := 0) (k := 4) (d := 33) rfl rfl) (s_getI dX10_birthday_72 flX10_184 (Or.inl rfl) (hi.sh rfl rfl) (s_ireturn dX10_birthday_75 rfl (((K.2 q4).2 q6).1 q9).2))))))))))))))))))))))))) (fun q9 => Vw.mask [true, false] ((((K.2 q4).2 q6).2 q9))))))))))))
theorem bX10_birthday_23 {G : GX} {h : mH} {Q : mO → mH → Prop} (hi : Iv h) (K : WM G jX10_refuse [.ref 0, .int 4] h (Aft G jX10_birthday 25 [none, none] [] Q)) : Vw G jX10_birthday 23 [some (.ref 0), none] [] h Q :=
  s_aload_n dX10_birthday_23 rfl (s_iconst 4 dX10_birthday_24 (by decide) (Vw.mask [false, false] (s_callV (As := [.int 4]) dX10_birthday_25 rfl lvX10_209 ⟨Nat.le_of_ble_eq_true rfl, Nat.le_of_ble_eq_true rfl⟩ (hi.sh rfl rfl) ⟨_, _, by decide, rfl⟩ rfl (Nat.le_of_ble_eq_true rfl) (K))))
theorem bX10_birthday_28 {G : GX} {h : mH} {Q : mO → mH → Prop} {vs0 : Int32} (hi : Iv h) (K : Q (.inl (some (.int vs0))) h) : Vw G jX10_birthday 28 [none, none] [.int vs0] h Q :=
  s_ireturn dX10_birthday_28 rfl K
theorem eX10_birthday {G : GX} {h : mH} {Q : mO → mH → Prop} {v1 : Int32} (hi : Iv h) (K : (10 ≤ (gI h 33 5) → Vw G jX10_birthday 23 [some (.ref 0), none] [] h Q) ∧ (¬ 10 ≤ (gI h 33 5) → ((v1 < 0 → Vw G jX10_birthday 23 [some (.ref 0), none] [] h Q) ∧ (¬ v1 < 0 → ((v1 ≤ 364 → (vp_in (gI h 33 5) 10 ∧ Q (.inl (some (.int (gI (pI (pI (pI h 37 (Int32.toNatClampNeg (gI h 33 5)) v1) 33 5 ((gI (pI h 37 (Int32.toNatClampNeg (gI h 33 5)) v1) 33 5) + 1)) 0 16 ((gI (pI (pI h 37 (Int32.toNatClampNeg (gI h 33 5)) v1) 33 5 ((gI (pI h 37 (Int32.toNatClampNeg (gI h 33 5)) v1) 33 5) + 1)) 0 16) + 1)) 33 5)))) (pI (pI (pI h 37 (Int32.toNatClampNeg (gI h 33 5)) v1) 33 5 ((gI (pI h 37 (Int32.toNatClampNeg (gI h 33 5)) v1) 33 5) + 1)) 0 16 ((gI (pI (pI h 37 (Int32.toNatClampNeg (gI h 33 5)) v1) 33 5 ((gI (pI h 37 (Int32.toNatClampNeg (gI h 33 5)) v1) 33 5) + 1)) 0 16) + 1)))) ∧ (¬ v1 ≤ 364 → Vw G jX10_birthday 23 [some (.ref 0), none] [] h Q)))))) : WM G jX10_birthday [.ref 0, .int v1] h Q :=
  WM.body (ls := [some (.ref 0), some (.int v1)]) rfl (by decide +kernel) rfl (Nat.le_of_ble_eq_true rfl) rfl ((bX10_birthday_0 hi  K))
theorem dX10_forget_0 : decode cX10_forget 0 = .ok (.aload_n 0, 1) := by decide +kernel
theorem dX10_forget_1 : decode cX10_forget 1 = .ok (.getfield 32, 3) := by decide +kernel
theorem dX10_forget_4 : decode cX10_forget 4 = .ok (.getfield 184, 3) := by decide +kernel
theorem dX10_forget_7 : decode cX10_forget 7 = .ok (.istore_n 1, 1) := by decide +kernel
theorem dX10_forget_8 : decode cX10_forget 8 = .ok (.aload_n 0, 1) := by decide +kernel
theorem dX10_forget_9 : decode cX10_forget 9 = .ok (.getfield 32, 3) := by decide +kernel
theorem dX10_forget_12 : decode cX10_forget 12 = .ok (.iconst 0, 1) := by decide +kernel
theorem dX10_forget_13 : decode cX10_forget 13 = .ok (.putfield 184, 3) := by decide +kernel
theorem dX10_forget_16 : decode cX10_forget 16 = .ok (.aload_n 0, 1) := by decide +kernel
theorem dX10_forget_17 : decode cX10_forget 17 = .ok (.dup, 1) := by decide +kernel
theorem dX10_forget_18 : decode cX10_forget 18 = .ok (.getfield 95, 3) := by decide +kernel
theorem dX10_forget_21 : decode cX10_forget 21 = .ok (.iconst 1, 1) := by decide +kernel
theorem dX10_forget_22 : decode cX10_forget 22 = .ok (.iadd, 1) := by decide +kernel
theorem dX10_forget_23 : decode cX10_forget 23 = .ok (.putfield 95, 3) := by decide +kernel
theorem dX10_forget_26 : decode cX10_forget 26 = .ok (.iload_n 1, 1) := by decide +kernel
theorem dX10_forget_27 : decode cX10_forget 27 = .ok (.ireturn, 1) := by decide +kernel
theorem bX10_forget_0 {G : GX} {h : mH} {Q : mO → mH → Prop} (hi : Iv h) (K : Q (.inl (some (.int (gI h 33 5)))) (pI (pI h 33 5 0) 0 16 ((gI (pI h 33 5 0) 0 16) + 1))) : Vw G jX10_forget 0 [some (.ref 0), none] [] h Q :=
  s_aload_n dX10_forget_0 rfl (s_getR (v := .ref 33) dX10_forget_1 flX10_32 rfl (hi.sh rfl rfl) (hi.rf (o := 0) (k := 4) (d := 33) rfl rfl) (s_getI dX10_forget_4 flX10_184 (Or.inl rfl) (hi.sh rfl rfl) (s_istore_n dX10_forget_7 (Nat.le_of_ble_eq_true rfl) rfl (s_aload_n dX10_forget_8 rfl (s_getR (v := .ref 33) dX10_forget_9 flX10_32 rfl (hi.sh rfl rfl) (hi.rf (o := 0) (k := 4) (d := 33) rfl rfl) (s_iconst 0 dX10_forget_12 (by decide) (s_putI dX10_forget_13 flX10_184 ff3_5 rfl (hi.sh rfl rfl) (s_aload_n dX10_forget_16 rfl (s_dupr dX10_forget_17 (s_getI dX10_forget_18 flX10_95 (Or.inl rfl) (hi.sh rfl rfl) (s_iconst 1 dX10_forget_21 (by decide) (s_iadd dX10_forget_22 (s_putI dX10_forget_23 flX10_95 ff9_16 rfl (hi.sh rfl rfl) (s_iload_n dX10_forget_26 rfl (s_ireturn dX10_forget_27 rfl K)))))))))))))))
theorem eX10_forget {G : GX} {h : mH} {Q : mO → mH → Prop} (hi : Iv h) (K : Q (.inl (some (.int (gI h 33 5)))) (pI (pI h 33 5 0) 0 16 ((gI (pI h 33 5 0) 0 16) + 1))) : WM G jX10_forget [.ref 0] h Q :=
  WM.body (ls := [some (.ref 0), none]) rfl (by decide +kernel) rfl (Nat.le_of_ble_eq_true rfl) rfl ((bX10_forget_0 hi  K))
theorem dX10_factor_0 : decode cX10_factor 0 = .ok (.iload_n 1, 1) := by decide +kernel
theorem dX10_factor_1 : decode cX10_factor 1 = .ok (.iconst 1, 1) := by decide +kernel
theorem dX10_factor_2 : decode cX10_factor 2 = .ok (.invokestatic 140, 3) := by decide +kernel
theorem dX10_factor_5 : decode cX10_factor 5 = .ok (.aload_n 0, 1) := by decide +kernel
theorem dX10_factor_6 : decode cX10_factor 6 = .ok (.getfield 84, 3) := by decide +kernel
theorem dX10_factor_9 : decode cX10_factor 9 = .ok (.aload_n 0, 1) := by decide +kernel
theorem dX10_factor_10 : decode cX10_factor 10 = .ok (.getfield 32, 3) := by decide +kernel
theorem dX10_factor_13 : decode cX10_factor 13 = .ok (.aload_n 0, 1) := by decide +kernel
theorem dX10_factor_14 : decode cX10_factor 14 = .ok (.getfield 95, 3) := by decide +kernel
theorem dX10_factor_17 : decode cX10_factor 17 = .ok (.invokevirtual 323, 3) := by decide +kernel
theorem dX10_factor_20 : decode cX10_factor 20 = .ok (.iload_n 1, 1) := by decide +kernel
theorem dX10_factor_21 : decode cX10_factor 21 = .ok (.ifCond .ne 13, 3) := by decide +kernel
theorem dX10_factor_24 : decode cX10_factor 24 = .ok (.aload_n 0, 1) := by decide +kernel
theorem dX10_factor_25 : decode cX10_factor 25 = .ok (.getfield 84, 3) := by decide +kernel
theorem dX10_factor_28 : decode cX10_factor 28 = .ok (.getfield 327, 3) := by decide +kernel
theorem dX10_factor_31 : decode cX10_factor 31 = .ok (.goto 10, 3) := by decide +kernel
theorem dX10_factor_34 : decode cX10_factor 34 = .ok (.aload_n 0, 1) := by decide +kernel
theorem dX10_factor_35 : decode cX10_factor 35 = .ok (.getfield 84, 3) := by decide +kernel
theorem dX10_factor_38 : decode cX10_factor 38 = .ok (.getfield 330, 3) := by decide +kernel
theorem dX10_factor_41 : decode cX10_factor 41 = .ok (.ireturn, 1) := by decide +kernel
theorem bX10_factor_0 {G : GX} {h : mH} {Q : mO → mH → Prop} {v1 : Int32} (hi : Iv h) (K : WM G jX10_needWhat [.int v1, .int 1] h (Aft G jX10_factor 2 [some (.ref 0), some (.int v1)] [] Q)) : Vw G jX10_factor 0 [some (.ref 0), some (.int v1)] [] h Q :=
  s_iload_n dX10_factor_0 rfl (s_iconst 1 dX10_factor_1 (by decide) (s_callS (As := [.int v1, .int 1]) dX10_factor_2 rfl lsX10_140 ⟨Nat.le_of_ble_eq_true rfl, Nat.le_of_ble_eq_true rfl⟩ rfl (Nat.le_of_ble_eq_true rfl) (K)))
theorem bX10_factor_5 {G : GX} {h : mH} {Q : mO → mH → Prop} {v1 : Int32} (hi : Iv h) (K : WM G jX5_findBest [.ref 80, .ref 33, .int (gI h 0 16)] h (Aft G jX10_factor 17 [some (.ref 0), some (.int v1)] [] Q)) : Vw G jX10_factor 5 [some (.ref 0), some (.int v1)] [] h Q :=
  s_aload_n dX10_factor_5 rfl (s_getR (v := .ref 80) dX10_factor_6 flX10_84 rfl (hi.sh rfl rfl) (hi.rf (o := 0) (k := 13) (d := 80) rfl rfl) (s_aload_n dX10_factor_9 rfl (s_getR (v := .ref 33) dX10_factor_10 flX10_32 rfl (hi.sh rfl rfl) (hi.rf (o := 0) (k := 4) (d := 33) rfl rfl) (s_aload_n dX10_factor_13 rfl (s_getI dX10_factor_14 flX10_95 (Or.inl rfl) (hi.sh rfl rfl) (s_callV (As := [.ref 33, .int (gI h 0 16)]) dX10_factor_17 rfl lvX10_323 ⟨Nat.le_of_ble_eq_true rfl, Nat.le_of_ble_eq_true rfl⟩ (hi.sh rfl rfl) ⟨_, _, by decide, rfl⟩ rfl (Nat.le_of_ble_eq_true rfl) (K)))))))
theorem bX10_factor_20 {G : GX} {h : mH} {Q : mO → mH → Prop} {v1 : Int32} (hi : Iv h) (K : (¬ v1 = 0 → Q (.inl (some (.int (gI h 80 1)))) h) ∧ (v1 = 0 → Q (.inl (some (.int (gI h 80 0)))) h)) : Vw G jX10_factor 20 [some (.ref 0), some (.int v1)] [] h Q :=
  s_iload_n dX10_factor_20 rfl (s_if_ne 34 dX10_factor_21 rfl (fun q1 => s_aload_n dX10_factor_34 rfl (s_getR (v := .ref 80) dX10_factor_35 flX10_84 rfl (hi.sh rfl rfl) (hi.rf (o := 0) (k := 13) (d := 80) rfl rfl) (s_getI dX10_factor_38 flX10_330 (Or.inl rfl) (hi.sh rfl rfl) (s_ireturn dX10_factor_41 rfl (K.1 q1))))) (fun q1 => s_aload_n dX10_factor_24 rfl (s_getR (v := .ref 80) dX10_factor_25 flX10_84 rfl (hi.sh rfl rfl) (hi.rf (o := 0) (k := 13) (d := 80) rfl rfl) (s_getI dX10_factor_28 flX10_327 (Or.inl rfl) (hi.sh rfl rfl) (s_goto 41 dX10_factor_31 rfl (s_ireturn dX10_factor_41 rfl (K.2 q1)))))))
theorem eX10_factor {G : GX} {h : mH} {Q : mO → mH → Prop} {v1 : Int32} (hi : Iv h) (K : WM G jX10_needWhat [.int v1, .int 1] h (Aft G jX10_factor 2 [some (.ref 0), some (.int v1)] [] Q)) : WM G jX10_factor [.ref 0, .int v1] h Q :=
  WM.body (ls := [some (.ref 0), some (.int v1)]) rfl (by decide +kernel) rfl (Nat.le_of_ble_eq_true rfl) rfl ((bX10_factor_0 hi  K))
theorem dX10_markPortrait_0 : decode cX10_markPortrait 0 = .ok (.aload_n 0, 1) := by decide +kernel
theorem dX10_markPortrait_1 : decode cX10_markPortrait 1 = .ok (.iload_n 1, 1) := by decide +kernel
theorem dX10_markPortrait_2 : decode cX10_markPortrait 2 = .ok (.aload_n 0, 1) := by decide +kernel
theorem dX10_markPortrait_3 : decode cX10_markPortrait 3 = .ok (.getfield 23, 3) := by decide +kernel
theorem dX10_markPortrait_6 : decode cX10_markPortrait 6 = .ok (.invokevirtual 362, 3) := by decide +kernel
theorem dX10_markPortrait_9 : decode cX10_markPortrait 9 = .ok (.aload_n 0, 1) := by decide +kernel
theorem dX10_markPortrait_10 : decode cX10_markPortrait 10 = .ok (.getfield 23, 3) := by decide +kernel
theorem dX10_markPortrait_13 : decode cX10_markPortrait 13 = .ok (.iconst 0, 1) := by decide +kernel
theorem dX10_markPortrait_14 : decode cX10_markPortrait 14 = .ok (.putfield 175, 3) := by decide +kernel
theorem dX10_markPortrait_17 : decode cX10_markPortrait 17 = .ok (.aload_n 0, 1) := by decide +kernel
theorem dX10_markPortrait_18 : decode cX10_markPortrait 18 = .ok (.aload_n 0, 1) := by decide +kernel
theorem dX10_markPortrait_19 : decode cX10_markPortrait 19 = .ok (.getfield 23, 3) := by decide +kernel
theorem dX10_markPortrait_22 : decode cX10_markPortrait 22 = .ok (.iload_n 2, 1) := by decide +kernel
theorem dX10_markPortrait_23 : decode cX10_markPortrait 23 = .ok (.iload_n 3, 1) := by decide +kernel
theorem dX10_markPortrait_24 : decode cX10_markPortrait 24 = .ok (.iload 4, 2) := by decide +kernel
theorem dX10_markPortrait_26 : decode cX10_markPortrait 26 = .ok (.invokevirtual 231, 3) := by decide +kernel
theorem dX10_markPortrait_29 : decode cX10_markPortrait 29 = .ok (.return_, 1) := by decide +kernel
theorem bX10_markPortrait_0 {G : GX} {h : mH} {Q : mO → mH → Prop} {v1 : Int32} {v2 : Int32} {v3 : Int32} {v4 : Int32} (hi : Iv h) (K : WM G jX10_copyWith [.ref 0, .int v1, .ref 13] h (Aft G jX10_markPortrait 6 [some (.ref 0), none, some (.int v2), some (.int v3), some (.int v4)] [] Q)) : Vw G jX10_markPortrait 0 [some (.ref 0), some (.int v1), some (.int v2), some (.int v3), some (.int v4)] [] h Q :=
  s_aload_n dX10_markPortrait_0 rfl (s_iload_n dX10_markPortrait_1 rfl (s_aload_n dX10_markPortrait_2 rfl (s_getR (v := .ref 13) dX10_markPortrait_3 flX10_23 rfl (hi.sh rfl rfl) (hi.rf (o := 0) (k := 2) (d := 13) rfl rfl) (Vw.mask [true, false, true, true, true] (s_callV (As := [.int v1, .ref 13]) dX10_markPortrait_6 rfl lvX10_362 ⟨Nat.le_of_ble_eq_true rfl, Nat.le_of_ble_eq_true rfl⟩ (hi.sh rfl rfl) ⟨_, _, by decide, rfl⟩ rfl (Nat.le_of_ble_eq_true rfl) (K))))))
theorem bX10_markPortrait_9 {G : GX} {h : mH} {Q : mO → mH → Prop} {v2 : Int32} {v3 : Int32} {v4 : Int32} (hi : Iv h) (K : WM G jX10_markSeen [.ref 0, .ref 13, .int v2, .int v3, .int v4] (pI h 13 5 0) (Aft G jX10_markPortrait 26 [none, none, none, none, none] [] Q)) : Vw G jX10_markPortrait 9 [some (.ref 0), none, some (.int v2), some (.int v3), some (.int v4)] [] h Q :=
  s_aload_n dX10_markPortrait_9 rfl (s_getR (v := .ref 13) dX10_markPortrait_10 flX10_23 rfl (hi.sh rfl rfl) (hi.rf (o := 0) (k := 2) (d := 13) rfl rfl) (s_iconst 0 dX10_markPortrait_13 (by decide) (s_putI dX10_markPortrait_14 flX10_175 ff2_5 rfl (hi.sh rfl rfl) (s_aload_n dX10_markPortrait_17 rfl (s_aload_n dX10_markPortrait_18 rfl (s_getR (v := .ref 13) dX10_markPortrait_19 flX10_23 rfl (hi.sh rfl rfl) (hi.rf (o := 0) (k := 2) (d := 13) rfl rfl) (s_iload_n dX10_markPortrait_22 rfl (s_iload_n dX10_markPortrait_23 rfl (s_iload dX10_markPortrait_24 rfl (Vw.mask [false, false, false, false, false] (s_callV (As := [.ref 13, .int v2, .int v3, .int v4]) dX10_markPortrait_26 rfl lvX10_231 ⟨Nat.le_of_ble_eq_true rfl, Nat.le_of_ble_eq_true rfl⟩ (hi.sh rfl rfl) ⟨_, _, by decide, rfl⟩ rfl (Nat.le_of_ble_eq_true rfl) (K))))))))))))
theorem bX10_markPortrait_29 {G : GX} {h : mH} {Q : mO → mH → Prop} (hi : Iv h) (K : Q (.inl none) h) : Vw G jX10_markPortrait 29 [none, none, none, none, none] [] h Q :=
  s_return dX10_markPortrait_29 rfl K
theorem eX10_markPortrait {G : GX} {h : mH} {Q : mO → mH → Prop} {v1 : Int32} {v2 : Int32} {v3 : Int32} {v4 : Int32} (hi : Iv h) (K : WM G jX10_copyWith [.ref 0, .int v1, .ref 13] h (Aft G jX10_markPortrait 6 [some (.ref 0), none, some (.int v2), some (.int v3), some (.int v4)] [] Q)) : WM G jX10_markPortrait [.ref 0, .int v1, .int v2, .int v3, .int v4] h Q :=
  WM.body (ls := [some (.ref 0), some (.int v1), some (.int v2), some (.int v3), some (.int v4)]) rfl (by decide +kernel) rfl (Nat.le_of_ble_eq_true rfl) rfl ((bX10_markPortrait_0 hi  K))
theorem dX10_laid_0 : decode cX10_laid 0 = .ok (.aload_n 0, 1) := by decide +kernel
theorem dX10_laid_1 : decode cX10_laid 1 = .ok (.iload_n 1, 1) := by decide +kernel
theorem dX10_laid_2 : decode cX10_laid 2 = .ok (.invokevirtual 261, 3) := by decide +kernel
theorem dX10_laid_5 : decode cX10_laid 5 = .ok (.aload_n 0, 1) := by decide +kernel
theorem dX10_laid_6 : decode cX10_laid 6 = .ok (.iload_n 2, 1) := by decide +kernel
theorem dX10_laid_7 : decode cX10_laid 7 = .ok (.invokevirtual 261, 3) := by decide +kernel
theorem dX10_laid_10 : decode cX10_laid 10 = .ok (.iload 5, 2) := by decide +kernel
theorem dX10_laid_12 : decode cX10_laid 12 = .ok (.iconst 2, 1) := by decide +kernel
theorem dX10_laid_13 : decode cX10_laid 13 = .ok (.invokestatic 140, 3) := by decide +kernel
theorem dX10_laid_16 : decode cX10_laid 16 = .ok (.iload_n 3, 1) := by decide +kernel
theorem dX10_laid_17 : decode cX10_laid 17 = .ok (.iload 4, 2) := by decide +kernel
theorem dX10_laid_19 : decode cX10_laid 19 = .ok (.invokestatic 222, 3) := by decide +kernel
theorem dX10_laid_22 : decode cX10_laid 22 = .ok (.aload_n 0, 1) := by decide +kernel
theorem dX10_laid_23 : decode cX10_laid 23 = .ok (.getfield 88, 3) := by decide +kernel
theorem dX10_laid_26 : decode cX10_laid 26 = .ok (.iconst 0, 1) := by decide +kernel
theorem dX10_laid_27 : decode cX10_laid 27 = .ok (.invokestatic 225, 3) := by decide +kernel
theorem dX10_laid_30 : decode cX10_laid 30 = .ok (.aload_n 0, 1) := by decide +kernel
theorem dX10_laid_31 : decode cX10_laid 31 = .ok (.iload_n 1, 1) := by decide +kernel
theorem dX10_laid_32 : decode cX10_laid 32 = .ok (.iload_n 3, 1) := by decide +kernel
theorem dX10_laid_33 : decode cX10_laid 33 = .ok (.iload 4, 2) := by decide +kernel
theorem dX10_laid_35 : decode cX10_laid 35 = .ok (.iconst 1, 1) := by decide +kernel
theorem dX10_laid_36 : decode cX10_laid 36 = .ok (.invokevirtual 333, 3) := by decide +kernel
theorem dX10_laid_39 : decode cX10_laid 39 = .ok (.aload_n 0, 1) := by decide +kernel
theorem dX10_laid_40 : decode cX10_laid 40 = .ok (.iload_n 2, 1) := by decide +kernel
theorem dX10_laid_41 : decode cX10_laid 41 = .ok (.iload_n 3, 1) := by decide +kernel
theorem dX10_laid_42 : decode cX10_laid 42 = .ok (.iload 4, 2) := by decide +kernel
theorem dX10_laid_44 : decode cX10_laid 44 = .ok (.iconst 2, 1) := by decide +kernel
theorem dX10_laid_45 : decode cX10_laid 45 = .ok (.invokevirtual 333, 3) := by decide +kernel
theorem dX10_laid_48 : decode cX10_laid 48 = .ok (.aload_n 0, 1) := by decide +kernel
theorem dX10_laid_49 : decode cX10_laid 49 = .ok (.iload 5, 2) := by decide +kernel
theorem dX10_laid_51 : decode cX10_laid 51 = .ok (.ifCond .ne 7, 3) := by decide +kernel
theorem dX10_laid_54 : decode cX10_laid 54 = .ok (.iconst 3, 1) := by decide +kernel
theorem dX10_laid_55 : decode cX10_laid 55 = .ok (.goto 5, 3) := by decide +kernel
theorem dX10_laid_58 : decode cX10_laid 58 = .ok (.iload 5, 2) := by decide +kernel
theorem dX10_laid_60 : decode cX10_laid 60 = .ok (.invokevirtual 235, 3) := by decide +kernel
theorem dX10_laid_63 : decode cX10_laid 63 = .ok (.ireturn, 1) := by decide +kernel
theorem bX10_laid_0 {G : GX} {h : mH} {Q : mO → mH → Prop} {v1 : Int32} {v2 : Int32} {v3 : Int32} {v4 : Int32} {v5 : Int32} (hi : Iv h) (K : WM G jX10_needPortrait [.ref 0, .int v1] h (Aft G jX10_laid 2 [some (.ref 0), some (.int v1), some (.int v2), some (.int v3), some (.int v4), some (.int v5)] [] Q)) : Vw G jX10_laid 0 [some (.ref 0), some (.int v1), some (.int v2), some (.int v3), some (.int v4), some (.int v5)] [] h Q :=
  s_aload_n dX10_laid_0 rfl (s_iload_n dX10_laid_1 rfl (s_callV (As := [.int v1]) dX10_laid_2 rfl lvX10_261 ⟨Nat.le_of_ble_eq_true rfl, Nat.le_of_ble_eq_true rfl⟩ (hi.sh rfl rfl) ⟨_, _, by decide, rfl⟩ rfl (Nat.le_of_ble_eq_true rfl) (K)))
theorem bX10_laid_5 {G : GX} {h : mH} {Q : mO → mH → Prop} {v1 : Int32} {v2 : Int32} {v3 : Int32} {v4 : Int32} {v5 : Int32} (hi : Iv h) (K : WM G jX10_needPortrait [.ref 0, .int v2] h (Aft G jX10_laid 7 [some (.ref 0), some (.int v1), some (.int v2), some (.int v3), some (.int v4), some (.int v5)] [] Q)) : Vw G jX10_laid 5 [some (.ref 0), some (.int v1), some (.int v2), some (.int v3), some (.int v4), some (.int v5)] [] h Q :=
  s_aload_n dX10_laid_5 rfl (s_iload_n dX10_laid_6 rfl (s_callV (As := [.int v2]) dX10_laid_7 rfl lvX10_261 ⟨Nat.le_of_ble_eq_true rfl, Nat.le_of_ble_eq_true rfl⟩ (hi.sh rfl rfl) ⟨_, _, by decide, rfl⟩ rfl (Nat.le_of_ble_eq_true rfl) (K)))
theorem bX10_laid_10 {G : GX} {h : mH} {Q : mO → mH → Prop} {v1 : Int32} {v2 : Int32} {v3 : Int32} {v4 : Int32} {v5 : Int32} (hi : Iv h) (K : WM G jX10_needWhat [.int v5, .int 2] h (Aft G jX10_laid 13 [some (.ref 0), some (.int v1), some (.int v2), some (.int v3), some (.int v4), some (.int v5)] [] Q)) : Vw G jX10_laid 10 [some (.ref 0), some (.int v1), some (.int v2), some (.int v3), some (.int v4), some (.int v5)] [] h Q :=
  s_iload dX10_laid_10 rfl (s_iconst 2 dX10_laid_12 (by decide) (s_callS (As := [.int v5, .int 2]) dX10_laid_13 rfl lsX10_140 ⟨Nat.le_of_ble_eq_true rfl, Nat.le_of_ble_eq_true rfl⟩ rfl (Nat.le_of_ble_eq_true rfl) (K)))
theorem bX10_laid_16 {G : GX} {h : mH} {Q : mO → mH → Prop} {v1 : Int32} {v2 : Int32} {v3 : Int32} {v4 : Int32} {v5 : Int32} (hi : Iv h) (K : WM G jX10_needSpan [.int v3, .int v4] h (Aft G jX10_laid 19 [some (.ref 0), some (.int v1), some (.int v2), some (.int v3), some (.int v4), some (.int v5)] [] Q)) : Vw G jX10_laid 16 [some (.ref 0), some (.int v1), some (.int v2), some (.int v3), some (.int v4), some (.int v5)] [] h Q :=
  s_iload_n dX10_laid_16 rfl (s_iload dX10_laid_17 rfl (s_callS (As := [.int v3, .int v4]) dX10_laid_19 rfl lsX10_222 ⟨Nat.le_of_ble_eq_true rfl, Nat.le_of_ble_eq_true rfl⟩ rfl (Nat.le_of_ble_eq_true rfl) (K)))
theorem bX10_laid_22 {G : GX} {h : mH} {Q : mO → mH → Prop} {v1 : Int32} {v2 : Int32} {v3 : Int32} {v4 : Int32} {v5 : Int32} (hi : Iv h) (K : WM G jJ7_fill_53178 [.ref 81, .int 0] h (Aft G jX10_laid 27 [some (.ref 0), some (.int v1), some (.int v2), some (.int v3), some (.int v4), some (.int v5)] [] Q)) : Vw G jX10_laid 22 [some (.ref 0), some (.int v1), some (.int v2), some (.int v3), some (.int v4), some (.int v5)] [] h Q :=
  s_aload_n dX10_laid_22 rfl (s_getR (v := .ref 81) dX10_laid_23 flX10_88 rfl (hi.sh rfl rfl) (hi.rf (o := 0) (k := 14) (d := 81) rfl rfl) (s_iconst 0 dX10_laid_26 (by decide) (s_callS (As := [.ref 81, .int 0]) dX10_laid_27 rfl lsX10_225 ⟨Nat.le_of_ble_eq_true rfl, Nat.le_of_ble_eq_true rfl⟩ rfl (Nat.le_of_ble_eq_true rfl) (K))))
theorem bX10_laid_30 {G : GX} {h : mH} {Q : mO → mH → Prop} {v1 : Int32} {v2 : Int32} {v3 : Int32} {v4 : Int32} {v5 : Int32} (hi : Iv h) (K : WM G jX10_markPortrait [.ref 0, .int v1, .int v3, .int v4, .int 1] h (Aft G jX10_laid 36 [some (.ref 0), none, some (.int v2), some (.int v3), some (.int v4), some (.int v5)] [] Q)) : Vw G jX10_laid 30 [some (.ref 0), some (.int v1), some (.int v2), some (.int v3), some (.int v4), some (.int v5)] [] h Q :=
  s_aload_n dX10_laid_30 rfl (s_iload_n dX10_laid_31 rfl (s_iload_n dX10_laid_32 rfl (s_iload dX10_laid_33 rfl (s_iconst 1 dX10_laid_35 (by decide) (Vw.mask [true, false, true, true, true, true] (s_callV (As := [.int v1, .int v3, .int v4, .int 1]) dX10_laid_36 rfl lvX10_333 ⟨Nat.le_of_ble_eq_true rfl, Nat.le_of_ble_eq_true rfl⟩ (hi.sh rfl rfl) ⟨_, _, by decide, rfl⟩ rfl (Nat.le_of_ble_eq_true rfl) (K)))))))
theorem bX10_laid_39 {G : GX} {h : mH} {Q : mO → mH → Prop} {v2 : Int32} {v3 : Int32} {v4 : Int32} {v5 : Int32} (hi : Iv h) (K : WM G jX10_markPortrait [.ref 0, .int v2, .int v3, .int v4, .int 2] h (Aft G jX10_laid 45 [some (.ref 0), none, none, none, none, some (.int v5)] [] Q)) : Vw G jX10_laid 39 [some (.ref 0), none, some (.int v2), some (.int v3), some (.int v4), some (.int v5)] [] h Q :=
  s_aload_n dX10_laid_39 rfl (s_iload_n dX10_laid_40 rfl (s_iload_n dX10_laid_41 rfl (s_iload dX10_laid_42 rfl (s_iconst 2 dX10_laid_44 (by decide) (Vw.mask [true, false, false, false, false, true] (s_callV (As := [.int v2, .int v3, .int v4, .int 2]) dX10_laid_45 rfl lvX10_333 ⟨Nat.le_of_ble_eq_true rfl, Nat.le_of_ble_eq_true rfl⟩ (hi.sh rfl rfl) ⟨_, _, by decide, rfl⟩ rfl (Nat.le_of_ble_eq_true rfl) (K)))))))
theorem bX10_laid_48 {G : GX} {h : mH} {Q : mO → mH → Prop} {v5 : Int32} (hi : Iv h) (K : (¬ v5 = 0 → WM G jX10_cellsSeen [.ref 0, .int v5] h (Aft G jX10_laid 60 [none, none, none, none, none, none] [] Q)) ∧ (v5 = 0 → WM G jX10_cellsSeen [.ref 0, .int 3] h (Aft G jX10_laid 60 [none, none, none, none, none, none] [] Q))) : Vw G jX10_laid 48 [some (.ref 0), none, none, none, none, some (.int v5)] [] h Q :=
  s_aload_n dX10_laid_48 rfl (s_iload dX10_laid_49 rfl (s_if_ne 58 dX10_laid_51 rfl (fun q2 => s_iload dX10_laid_58 rfl (Vw.mask [false, false, false, false, false, false] (s_callV (As := [.int v5]) dX10_laid_60 rfl lvX10_235 ⟨Nat.le_of_ble_eq_true rfl, Nat.le_of_ble_eq_true rfl⟩ (hi.sh rfl rfl) ⟨_, _, by decide, rfl⟩ rfl (Nat.le_of_ble_eq_true rfl) ((K.1 q2))))) (fun q2 => s_iconst 3 dX10_laid_54 (by decide) (s_goto 60 dX10_laid_55 rfl (Vw.mask [false, false, false, false, false, false] (s_callV (As := [.int 3]) dX10_laid_60 rfl lvX10_235 ⟨Nat.le_of_ble_eq_true rfl, Nat.le_of_ble_eq_true rfl⟩ (hi.sh rfl rfl) ⟨_, _, by decide, rfl⟩ rfl (Nat.le_of_ble_eq_true rfl) ((K.2 q2))))))))
theorem bX10_laid_63 {G : GX} {h : mH} {Q : mO → mH → Prop} {vs0 : Int32} (hi : Iv h) (K : Q (.inl (some (.int vs0))) h) : Vw G jX10_laid 63 [none, none, none, none, none, none] [.int vs0] h Q :=
  s_ireturn dX10_laid_63 rfl K
theorem eX10_laid {G : GX} {h : mH} {Q : mO → mH → Prop} {v1 : Int32} {v2 : Int32} {v3 : Int32} {v4 : Int32} {v5 : Int32} (hi : Iv h) (K : WM G jX10_needPortrait [.ref 0, .int v1] h (Aft G jX10_laid 2 [some (.ref 0), some (.int v1), some (.int v2), some (.int v3), some (.int v4), some (.int v5)] [] Q)) : WM G jX10_laid [.ref 0, .int v1, .int v2, .int v3, .int v4, .int v5] h Q :=
  WM.body (ls := [some (.ref 0), some (.int v1), some (.int v2), some (.int v3), some (.int v4), some (.int v5)]) rfl (by decide +kernel) rfl (Nat.le_of_ble_eq_true rfl) rfl ((bX10_laid_0 hi  K))
theorem dX10_evening_0 : decode cX10_evening 0 = .ok (.iload_n 1, 1) := by decide +kernel
theorem dX10_evening_1 : decode cX10_evening 1 = .ok (.iconst 1, 1) := by decide +kernel
theorem dX10_evening_2 : decode cX10_evening 2 = .ok (.iconst 1, 1) := by decide +kernel
theorem dX10_evening_3 : decode cX10_evening 3 = .ok (.aload_n 0, 1) := by decide +kernel
theorem dX10_evening_4 : decode cX10_evening 4 = .ok (.getfield 32, 3) := by decide +kernel
theorem dX10_evening_7 : decode cX10_evening 7 = .ok (.getfield 178, 3) := by decide +kernel
theorem dX10_evening_10 : decode cX10_evening 10 = .ok (.ishl, 1) := by decide +kernel
theorem dX10_evening_11 : decode cX10_evening 11 = .ok (.iconst 1, 1) := by decide +kernel
theorem dX10_evening_12 : decode cX10_evening 12 = .ok (.isub, 1) := by decide +kernel
theorem dX10_evening_13 : decode cX10_evening 13 = .ok (.invokestatic 284, 3) := by decide +kernel
theorem dX10_evening_16 : decode cX10_evening 16 = .ok (.aload_n 0, 1) := by decide +kernel
theorem dX10_evening_17 : decode cX10_evening 17 = .ok (.getfield 77, 3) := by decide +kernel
theorem dX10_evening_20 : decode cX10_evening 20 = .ok (.iload_n 1, 1) := by decide +kernel
theorem dX10_evening_21 : decode cX10_evening 21 = .ok (.aload_n 0, 1) := by decide +kernel
theorem dX10_evening_22 : decode cX10_evening 22 = .ok (.getfield 32, 3) := by decide +kernel
theorem dX10_evening_25 : decode cX10_evening 25 = .ok (.aload_n 0, 1) := by decide +kernel
theorem dX10_evening_26 : decode cX10_evening 26 = .ok (.getfield 19, 3) := by decide +kernel
theorem dX10_evening_29 : decode cX10_evening 29 = .ok (.getfield 196, 3) := by decide +kernel
theorem dX10_evening_32 : decode cX10_evening 32 = .ok (.invokevirtual 337, 3) := by decide +kernel
theorem dX10_evening_35 : decode cX10_evening 35 = .ok (.ireturn, 1) := by decide +kernel
theorem bX10_evening_0 {G : GX} {h : mH} {Q : mO → mH → Prop} {v1 : Int32} (hi : Iv h) (K : WM G jX10_needWithin [.int v1, .int 1, .int (((1 : Int32) <<< ((gI h 33 1) &&& 31)) - 1)] h (Aft G jX10_evening 13 [some (.ref 0), some (.int v1)] [] Q)) : Vw G jX10_evening 0 [some (.ref 0), some (.int v1)] [] h Q :=
  s_iload_n dX10_evening_0 rfl (s_iconst 1 dX10_evening_1 (by decide) (s_iconst 1 dX10_evening_2 (by decide) (s_aload_n dX10_evening_3 rfl (s_getR (v := .ref 33) dX10_evening_4 flX10_32 rfl (hi.sh rfl rfl) (hi.rf (o := 0) (k := 4) (d := 33) rfl rfl) (s_getI dX10_evening_7 flX10_178 (Or.inl rfl) (hi.sh rfl rfl) (s_ishl dX10_evening_10 (s_iconst 1 dX10_evening_11 (by decide) (s_isub dX10_evening_12 (s_callS (As := [.int v1, .int 1, .int (((1 : Int32) <<< ((gI h 33 1) &&& 31)) - 1)]) dX10_evening_13 rfl lsX10_284 ⟨Nat.le_of_ble_eq_true rfl, Nat.le_of_ble_eq_true rfl⟩ rfl (Nat.le_of_ble_eq_true rfl) (K))))))))))
theorem bX10_evening_16 {G : GX} {h : mH} {Q : mO → mH → Prop} {v1 : Int32} (hi : Iv h) (K : WM G jX0_make [.ref 75, .int v1, .ref 33, .ref 7] h (Aft G jX10_evening 32 [none, none] [] Q)) : Vw G jX10_evening 16 [some (.ref 0), some (.int v1)] [] h Q :=
  s_aload_n dX10_evening_16 rfl (s_getR (v := .ref 75) dX10_evening_17 flX10_77 rfl (hi.sh rfl rfl) (hi.rf (o := 0) (k := 12) (d := 75) rfl rfl) (s_iload_n dX10_evening_20 rfl (s_aload_n dX10_evening_21 rfl (s_getR (v := .ref 33) dX10_evening_22 flX10_32 rfl (hi.sh rfl rfl) (hi.rf (o := 0) (k := 4) (d := 33) rfl rfl) (s_aload_n dX10_evening_25 rfl (s_getR (v := .ref 3) dX10_evening_26 flX10_19 rfl (hi.sh rfl rfl) (hi.rf (o := 0) (k := 1) (d := 3) rfl rfl) (s_getR (v := .ref 7) dX10_evening_29 flX10_196 rfl (hi.sh rfl rfl) (hi.rf (o := 3) (k := 3) (d := 4) rfl rfl) (Vw.mask [false, false] (s_callV (As := [.int v1, .ref 33, .ref 7]) dX10_evening_32 rfl lvX10_337 ⟨Nat.le_of_ble_eq_true rfl, Nat.le_of_ble_eq_true rfl⟩ (hi.sh rfl rfl) ⟨_, _, by decide, rfl⟩ rfl (Nat.le_of_ble_eq_true rfl) (K))))))))))
theorem bX10_evening_35 {G : GX} {h : mH} {Q : mO → mH → Prop} {vs0 : Int32} (hi : Iv h) (K : Q (.inl (some (.int vs0))) h) : Vw G jX10_evening 35 [none, none] [.int vs0] h Q :=
  s_ireturn dX10_evening_35 rfl K
theorem eX10_evening {G : GX} {h : mH} {Q : mO → mH → Prop} {v1 : Int32} (hi : Iv h) (K : WM G jX10_needWithin [.int v1, .int 1, .int (((1 : Int32) <<< ((gI h 33 1) &&& 31)) - 1)] h (Aft G jX10_evening 13 [some (.ref 0), some (.int v1)] [] Q)) : WM G jX10_evening [.ref 0, .int v1] h Q :=
  WM.body (ls := [some (.ref 0), some (.int v1)]) rfl (by decide +kernel) rfl (Nat.le_of_ble_eq_true rfl) rfl ((bX10_evening_0 hi  K))
theorem dX10_drawing_0 : decode cX10_drawing 0 = .ok (.aload_n 0, 1) := by decide +kernel
theorem dX10_drawing_1 : decode cX10_drawing 1 = .ok (.getfield 77, 3) := by decide +kernel
theorem dX10_drawing_4 : decode cX10_drawing 4 = .ok (.getfield 341, 3) := by decide +kernel
theorem dX10_drawing_7 : decode cX10_drawing 7 = .ok (.ifCond .eq 19, 3) := by decide +kernel
theorem dX10_drawing_10 : decode cX10_drawing 10 = .ok (.iload_n 1, 1) := by decide +kernel
theorem dX10_drawing_11 : decode cX10_drawing 11 = .ok (.iconst (-1), 1) := by decide +kernel
theorem dX10_drawing_12 : decode cX10_drawing 12 = .ok (.if_icmp .lt 14, 3) := by decide +kernel
theorem dX10_drawing_15 : decode cX10_drawing 15 = .ok (.iload_n 1, 1) := by decide +kernel
theorem dX10_drawing_16 : decode cX10_drawing 16 = .ok (.aload_n 0, 1) := by decide +kernel
theorem dX10_drawing_17 : decode cX10_drawing 17 = .ok (.getfield 77, 3) := by decide +kernel
theorem dX10_drawing_20 : decode cX10_drawing 20 = .ok (.getfield 341, 3) := by decide +kernel
theorem dX10_drawing_23 : decode cX10_drawing 23 = .ok (.if_icmp .lt 14, 3) := by decide +kernel
theorem dX10_drawing_26 : decode cX10_drawing 26 = .ok (.new 342, 3) := by decide +kernel
theorem dX10_drawing_29 : decode cX10_drawing 29 = .ok (.dup, 1) := by decide +kernel
theorem dX10_drawing_30 : decode cX10_drawing 30 = .ok (.ldc_w 344, 3) := by decide +kernel
theorem dX10_drawing_33 : decode cX10_drawing 33 = .ok (.invokespecial 346, 3) := by decide +kernel
theorem dX10_drawing_36 : decode cX10_drawing 36 = .ok (.athrow, 1) := by decide +kernel
theorem dX10_drawing_37 : decode cX10_drawing 37 = .ok (.iload_n 1, 1) := by decide +kernel
theorem dX10_drawing_38 : decode cX10_drawing 38 = .ok (.iconst (-1), 1) := by decide +kernel
theorem dX10_drawing_39 : decode cX10_drawing 39 = .ok (.if_icmp .ne 13, 3) := by decide +kernel
theorem dX10_drawing_42 : decode cX10_drawing 42 = .ok (.aload_n 0, 1) := by decide +kernel
theorem dX10_drawing_43 : decode cX10_drawing 43 = .ok (.getfield 77, 3) := by decide +kernel
theorem dX10_drawing_46 : decode cX10_drawing 46 = .ok (.getfield 349, 3) := by decide +kernel
theorem dX10_drawing_49 : decode cX10_drawing 49 = .ok (.goto 12, 3) := by decide +kernel
theorem dX10_drawing_52 : decode cX10_drawing 52 = .ok (.aload_n 0, 1) := by decide +kernel
theorem dX10_drawing_53 : decode cX10_drawing 53 = .ok (.getfield 77, 3) := by decide +kernel
theorem dX10_drawing_56 : decode cX10_drawing 56 = .ok (.getfield 352, 3) := by decide +kernel
theorem dX10_drawing_59 : decode cX10_drawing 59 = .ok (.iload_n 1, 1) := by decide +kernel
theorem dX10_drawing_60 : decode cX10_drawing 60 = .ok (.iaload, 1) := by decide +kernel
theorem dX10_drawing_61 : decode cX10_drawing 61 = .ok (.ireturn, 1) := by decide +kernel
theorem bX10_drawing_0 {G : GX} {h : mH} {Q : mO → mH → Prop} {v1 : Int32} (hi : Iv h) (K : ((gI h 75 1) = 0 → Vw G jX10_drawing 26 [none, none] [] h Q) ∧ (¬ (gI h 75 1) = 0 → ((v1 < (-1) → Vw G jX10_drawing 26 [none, none] [] h Q) ∧ (¬ v1 < (-1) → ((v1 < (gI h 75 1) → ((¬ v1 = (-1) → (vp_in v1 8 ∧ Q (.inl (some (.int (gI h 76 (Int32.toNatClampNeg v1))))) h)) ∧ (v1 = (-1) → Q (.inl (some (.int (gI h 75 2)))) h))) ∧ (¬ v1 < (gI h 75 1) → Vw G jX10_drawing 26 [none, none] [] h Q)))))) : Vw G jX10_drawing 0 [some (.ref 0), some (.int v1)] [] h Q :=
  s_aload_n dX10_drawing_0 rfl (s_getR (v := .ref 75) dX10_drawing_1 flX10_77 rfl (hi.sh rfl rfl) (hi.rf (o := 0) (k := 12) (d := 75) rfl rfl) (s_getI dX10_drawing_4 flX10_341 (Or.inl rfl) (hi.sh rfl rfl) (s_if_eq 26 dX10_drawing_7 rfl (fun q3 => Vw.mask [false, false] ((K.1 q3))) (fun q3 => s_iload_n dX10_drawing_10 rfl (s_iconst (-1) dX10_drawing_11 (by decide) (s_icmp_lt 26 dX10_drawing_12 rfl (fun q6 => Vw.mask [false, false] (((K.2 q3).1 q6))) (fun q6 => s_iload_n dX10_drawing_15 rfl (s_aload_n dX10_drawing_16 rfl (s_getR (v := .ref 75) dX10_drawing_17 flX10_77 rfl (hi.sh rfl rfl) (hi.rf (o := 0) (k := 12) (d := 75) rfl rfl) (s_getI dX10_drawing_20 flX10_341 (Or.inl rfl) (hi.sh rfl rfl) (s_icmp_lt 37 dX10_drawing_23 rfl (fun q11 => s_iload_n dX10_drawing_37 rfl (s_iconst (-1) dX10_drawing_38 (by decide) (s_icmp_ne 52 dX10_drawing_39 rfl (fun q14 => s_aload_n dX10_drawing_52 rfl (s_getR (v := .ref 75) dX10_drawing_53 flX10_77 rfl (hi.sh rfl rfl) (hi.rf (o := 0) (k := 12) (d := 75) rfl rfl) (s_getR (v := .ref 76) dX10_drawing_56 flX10_352 rfl (hi.sh rfl rfl) (hi.rf (o := 75) (k := 0) (d := 1) rfl rfl) (s_iload_n dX10_drawing_59 rfl (s_iaload dX10_drawing_60 (hi.sh rfl rfl) ((((K.2 q3).2 q6).1 q11).1 q14).1 (s_ireturn dX10_drawing_61 rfl ((((K.2 q3).2 q6).1 q11).1 q14).2)))))) (fun q14 => s_aload_n dX10_drawing_42 rfl (s_getR (v := .ref 75) dX10_drawing_43 flX10_77 rfl (hi.sh rfl rfl) (hi.rf (o := 0) (k := 12) (d := 75) rfl rfl) (s_getI dX10_drawing_46 flX10_349 (Or.inl rfl) (hi.sh rfl rfl) (s_goto 61 dX10_drawing_49 rfl (s_ireturn dX10_drawing_61 rfl ((((K.2 q3).2 q6).1 q11).2 q14))))))))) (fun q11 => Vw.mask [false, false] ((((K.2 q3).2 q6).2 q11))))))))))))))
theorem bX10_drawing_26 {G : GX} {h : mH} {Q : mO → mH → Prop} (hi : Iv h) (K : (h.1.length + 1 ≤ NC ∧ sl h + 6 ≤ NS) ∧ Q (.inr "java/util/NoSuchElementException") h ∧ ∀ n, n ≤ 6 → Q (.inr "java/util/NoSuchElementException") (aN h 200 n)) : Vw G jX10_drawing 26 [none, none] [] h Q :=
  s_throw dX10_drawing_26 dX10_drawing_29 dX10_drawing_30 dX10_drawing_33 dX10_drawing_36 rfl ktX10_344 (Nat.le_of_ble_eq_true rfl) (Nat.le_of_ble_eq_true rfl) K.1.1 K.1.2 K.2.1 K.2.2
theorem eX10_drawing {G : GX} {h : mH} {Q : mO → mH → Prop} {v1 : Int32} (hi : Iv h) (K : ((gI h 75 1) = 0 → Vw G jX10_drawing 26 [none, none] [] h Q) ∧ (¬ (gI h 75 1) = 0 → ((v1 < (-1) → Vw G jX10_drawing 26 [none, none] [] h Q) ∧ (¬ v1 < (-1) → ((v1 < (gI h 75 1) → ((¬ v1 = (-1) → (vp_in v1 8 ∧ Q (.inl (some (.int (gI h 76 (Int32.toNatClampNeg v1))))) h)) ∧ (v1 = (-1) → Q (.inl (some (.int (gI h 75 2)))) h))) ∧ (¬ v1 < (gI h 75 1) → Vw G jX10_drawing 26 [none, none] [] h Q)))))) : WM G jX10_drawing [.ref 0, .int v1] h Q :=
  WM.body (ls := [some (.ref 0), some (.int v1)]) rfl (by decide +kernel) rfl (Nat.le_of_ble_eq_true rfl) rfl ((bX10_drawing_0 hi  K))
theorem dX10_image_0 : decode cX10_image 0 = .ok (.aload_n 0, 1) := by decide +kernel
theorem dX10_image_1 : decode cX10_image 1 = .ok (.getfield 19, 3) := by decide +kernel
theorem dX10_image_4 : decode cX10_image 4 = .ok (.getfield 196, 3) := by decide +kernel
theorem dX10_image_7 : decode cX10_image 7 = .ok (.iconst 0, 1) := by decide +kernel
theorem dX10_image_8 : decode cX10_image 8 = .ok (.aload_n 0, 1) := by decide +kernel
theorem dX10_image_9 : decode cX10_image 9 = .ok (.getfield 32, 3) := by decide +kernel
theorem dX10_image_12 : decode cX10_image 12 = .ok (.getfield 355, 3) := by decide +kernel
theorem dX10_image_15 : decode cX10_image 15 = .ok (.iconst 0, 1) := by decide +kernel
theorem dX10_image_16 : decode cX10_image 16 = .ok (.bipush 12, 2) := by decide +kernel
theorem dX10_image_18 : decode cX10_image 18 = .ok (.invokestatic 255, 3) := by decide +kernel
theorem dX10_image_21 : decode cX10_image 21 = .ok (.aload_n 0, 1) := by decide +kernel
theorem dX10_image_22 : decode cX10_image 22 = .ok (.getfield 36, 3) := by decide +kernel
theorem dX10_image_25 : decode cX10_image 25 = .ok (.aload_n 0, 1) := by decide +kernel
theorem dX10_image_26 : decode cX10_image 26 = .ok (.getfield 32, 3) := by decide +kernel
theorem dX10_image_29 : decode cX10_image 29 = .ok (.invokevirtual 356, 3) := by decide +kernel
theorem dX10_image_32 : decode cX10_image 32 = .ok (.aload_n 0, 1) := by decide +kernel
theorem dX10_image_33 : decode cX10_image 33 = .ok (.iconst 1, 1) := by decide +kernel
theorem dX10_image_34 : decode cX10_image 34 = .ok (.putfield 39, 3) := by decide +kernel
theorem dX10_image_37 : decode cX10_image 37 = .ok (.return_, 1) := by decide +kernel
theorem bX10_image_0 {G : GX} {h : mH} {Q : mO → mH → Prop} (hi : Iv h) (K : WM G jX3_copy [.ref 38, .ref 33] (pA h 34 (va_cpy (gI h 7) (gI h 34) 0 0 12)) (Aft G jX10_image 29 [some (.ref 0)] [] Q)) : Vw G jX10_image 0 [some (.ref 0)] [] h Q :=
  s_aload_n dX10_image_0 rfl (s_getR (v := .ref 3) dX10_image_1 flX10_19 rfl (hi.sh rfl rfl) (hi.rf (o := 0) (k := 1) (d := 3) rfl rfl) (s_getR (v := .ref 7) dX10_image_4 flX10_196 rfl (hi.sh rfl rfl) (hi.rf (o := 3) (k := 3) (d := 4) rfl rfl) (s_iconst 0 dX10_image_7 (by decide) (s_aload_n dX10_image_8 rfl (s_getR (v := .ref 33) dX10_image_9 flX10_32 rfl (hi.sh rfl rfl) (hi.rf (o := 0) (k := 4) (d := 33) rfl rfl) (s_getR (v := .ref 34) dX10_image_12 flX10_355 rfl (hi.sh rfl rfl) (hi.rf (o := 33) (k := 0) (d := 1) rfl rfl) (s_iconst 0 dX10_image_15 (by decide) (s_bipush 12 dX10_image_16 (by decide) (s_acopy dX10_image_18 w_570 w_572 w_571 w_116 (hi.sh rfl rfl) (hi.sh rfl rfl) (by decide) (by decide) (by decide) (by decide) (by decide) (Nat.le_of_ble_eq_true rfl) (by decide +kernel) (s_aload_n dX10_image_21 rfl (s_getR (v := .ref 38) dX10_image_22 flX10_36 rfl (hi.sh rfl rfl) (hi.rf (o := 0) (k := 5) (d := 38) rfl rfl) (s_aload_n dX10_image_25 rfl (s_getR (v := .ref 33) dX10_image_26 flX10_32 rfl (hi.sh rfl rfl) (hi.rf (o := 0) (k := 4) (d := 33) rfl rfl) (s_callV (As := [.ref 33]) dX10_image_29 rfl lvX10_356 ⟨Nat.le_of_ble_eq_true rfl, Nat.le_of_ble_eq_true rfl⟩ (hi.sh rfl rfl) ⟨_, _, by decide, rfl⟩ rfl (Nat.le_of_ble_eq_true rfl) (K)))))))))))))))
theorem bX10_image_32 {G : GX} {h : mH} {Q : mO → mH → Prop} (hi : Iv h) (K : Q (.inl none) (pI h 0 6 1)) : Vw G jX10_image 32 [some (.ref 0)] [] h Q :=
  s_aload_n dX10_image_32 rfl (s_iconst 1 dX10_image_33 (by decide) (s_putZ dX10_image_34 flX10_39 ff9_6 rfl (hi.sh rfl rfl) (by decide) (s_return dX10_image_37 rfl K)))
theorem eX10_image {G : GX} {h : mH} {Q : mO → mH → Prop} (hi : Iv h) (K : WM G jX3_copy [.ref 38, .ref 33] (pA h 34 (va_cpy (gI h 7) (gI h 34) 0 0 12)) (Aft G jX10_image 29 [some (.ref 0)] [] Q)) : WM G jX10_image [.ref 0] h Q :=
  WM.body (ls := [some (.ref 0)]) rfl (by decide +kernel) rfl (Nat.le_of_ble_eq_true rfl) rfl ((bX10_image_0 hi  K))
theorem dX10_restore_0 : decode cX10_restore 0 = .ok (.aload_n 0, 1) := by decide +kernel
theorem dX10_restore_1 : decode cX10_restore 1 = .ok (.getfield 39, 3) := by decide +kernel
theorem dX10_restore_4 : decode cX10_restore 4 = .ok (.ifCond .ne 5, 3) := by decide +kernel
theorem dX10_restore_7 : decode cX10_restore 7 = .ok (.iconst 0, 1) := by decide +kernel
theorem dX10_restore_8 : decode cX10_restore 8 = .ok (.ireturn, 1) := by decide +kernel
theorem dX10_restore_9 : decode cX10_restore 9 = .ok (.aload_n 0, 1) := by decide +kernel
theorem dX10_restore_10 : decode cX10_restore 10 = .ok (.getfield 32, 3) := by decide +kernel
theorem dX10_restore_13 : decode cX10_restore 13 = .ok (.aload_n 0, 1) := by decide +kernel
theorem dX10_restore_14 : decode cX10_restore 14 = .ok (.getfield 36, 3) := by decide +kernel
theorem dX10_restore_17 : decode cX10_restore 17 = .ok (.invokevirtual 356, 3) := by decide +kernel
theorem dX10_restore_20 : decode cX10_restore 20 = .ok (.aload_n 0, 1) := by decide +kernel
theorem dX10_restore_21 : decode cX10_restore 21 = .ok (.getfield 32, 3) := by decide +kernel
theorem dX10_restore_24 : decode cX10_restore 24 = .ok (.getfield 355, 3) := by decide +kernel
theorem dX10_restore_27 : decode cX10_restore 27 = .ok (.iconst 0, 1) := by decide +kernel
theorem dX10_restore_28 : decode cX10_restore 28 = .ok (.aload_n 0, 1) := by decide +kernel
theorem dX10_restore_29 : decode cX10_restore 29 = .ok (.getfield 19, 3) := by decide +kernel
theorem dX10_restore_32 : decode cX10_restore 32 = .ok (.getfield 196, 3) := by decide +kernel
theorem dX10_restore_35 : decode cX10_restore 35 = .ok (.iconst 0, 1) := by decide +kernel
theorem dX10_restore_36 : decode cX10_restore 36 = .ok (.bipush 12, 2) := by decide +kernel
theorem dX10_restore_38 : decode cX10_restore 38 = .ok (.invokestatic 255, 3) := by decide +kernel
theorem dX10_restore_41 : decode cX10_restore 41 = .ok (.aload_n 0, 1) := by decide +kernel
theorem dX10_restore_42 : decode cX10_restore 42 = .ok (.dup, 1) := by decide +kernel
theorem dX10_restore_43 : decode cX10_restore 43 = .ok (.getfield 95, 3) := by decide +kernel
theorem dX10_restore_46 : decode cX10_restore 46 = .ok (.iconst 1, 1) := by decide +kernel
theorem dX10_restore_47 : decode cX10_restore 47 = .ok (.iadd, 1) := by decide +kernel
theorem dX10_restore_48 : decode cX10_restore 48 = .ok (.putfield 95, 3) := by decide +kernel
theorem dX10_restore_51 : decode cX10_restore 51 = .ok (.iconst 1, 1) := by decide +kernel
theorem dX10_restore_52 : decode cX10_restore 52 = .ok (.ireturn, 1) := by decide +kernel
theorem bX10_restore_0 {G : GX} {h : mH} {Q : mO → mH → Prop} (hi : Iv h) (K : (¬ (gI h 0 6) = 0 → WM G jX3_copy [.ref 33, .ref 38] h (Aft G jX10_restore 17 [some (.ref 0)] [] Q)) ∧ ((gI h 0 6) = 0 → Q (.inl (some (.int 0))) h)) : Vw G jX10_restore 0 [some (.ref 0)] [] h Q :=
  s_aload_n dX10_restore_0 rfl (s_getI dX10_restore_1 flX10_39 (Or.inr rfl) (hi.sh rfl rfl) (s_if_ne 9 dX10_restore_4 rfl (fun q2 => s_aload_n dX10_restore_9 rfl (s_getR (v := .ref 33) dX10_restore_10 flX10_32 rfl (hi.sh rfl rfl) (hi.rf (o := 0) (k := 4) (d := 33) rfl rfl) (s_aload_n dX10_restore_13 rfl (s_getR (v := .ref 38) dX10_restore_14 flX10_36 rfl (hi.sh rfl rfl) (hi.rf (o := 0) (k := 5) (d := 38) rfl rfl) (s_callV (As := [.ref 38]) dX10_restore_17 rfl lvX10_356 ⟨Nat.le_of_ble_eq_true rfl, Nat.le_of_ble_eq_true rfl⟩ (hi.sh rfl rfl) ⟨_, _, by decide, rfl⟩ rfl (Nat.le_of_ble_eq_true rfl) ((K.1 q2))))))) (fun q2 => s_iconst 0 dX10_restore_7 (by decide) (s_zreturn dX10_restore_8 rfl (by decide) (K.2 q2)))))
theorem bX10_restore_20 {G : GX} {h : mH} {Q : mO → mH → Prop} (hi : Iv h) (K : Q (.inl (some (.int 1))) (pI (pA h 7 (va_cpy (gI h 34) (gI h 7) 0 0 12)) 0 16 ((gI (pA h 7 (va_cpy (gI h 34) (gI h 7) 0 0 12)) 0 16) + 1))) : Vw G jX10_restore 20 [some (.ref 0)] [] h Q :=
  s_aload_n dX10_restore_20 rfl (s_getR (v := .ref 33) dX10_restore_21 flX10_32 rfl (hi.sh rfl rfl) (hi.rf (o := 0) (k := 4) (d := 33) rfl rfl) (s_getR (v := .ref 34) dX10_restore_24 flX10_355 rfl (hi.sh rfl rfl) (hi.rf (o := 33) (k := 0) (d := 1) rfl rfl) (s_iconst 0 dX10_restore_27 (by decide) (s_aload_n dX10_restore_28 rfl (s_getR (v := .ref 3) dX10_restore_29 flX10_19 rfl (hi.sh rfl rfl) (hi.rf (o := 0) (k := 1) (d := 3) rfl rfl) (s_getR (v := .ref 7) dX10_restore_32 flX10_196 rfl (hi.sh rfl rfl) (hi.rf (o := 3) (k := 3) (d := 4) rfl rfl) (s_iconst 0 dX10_restore_35 (by decide) (s_bipush 12 dX10_restore_36 (by decide) (s_acopy dX10_restore_38 w_570 w_572 w_571 w_116 (hi.sh rfl rfl) (hi.sh rfl rfl) (by decide) (by decide) (by decide) (by decide) (by decide) (Nat.le_of_ble_eq_true rfl) (by decide +kernel) (s_aload_n dX10_restore_41 rfl (s_dupr dX10_restore_42 (s_getI dX10_restore_43 flX10_95 (Or.inl rfl) (hi.sh rfl rfl) (s_iconst 1 dX10_restore_46 (by decide) (s_iadd dX10_restore_47 (s_putI dX10_restore_48 flX10_95 ff9_16 rfl (hi.sh rfl rfl) (s_iconst 1 dX10_restore_51 (by decide) (s_zreturn dX10_restore_52 rfl (by decide) K)))))))))))))))))
theorem eX10_restore {G : GX} {h : mH} {Q : mO → mH → Prop} (hi : Iv h) (K : (¬ (gI h 0 6) = 0 → WM G jX3_copy [.ref 33, .ref 38] h (Aft G jX10_restore 17 [some (.ref 0)] [] Q)) ∧ ((gI h 0 6) = 0 → Q (.inl (some (.int 0))) h)) : WM G jX10_restore [.ref 0] h Q :=
  WM.body (ls := [some (.ref 0)]) rfl (by decide +kernel) rfl (Nat.le_of_ble_eq_true rfl) rfl ((bX10_restore_0 hi  K))
