theorem dX11_cart_0 : decode cX11_cart 0 = .ok (.aload_n 0, 1) := by decide +kernel
theorem dX11_cart_1 : decode cX11_cart 1 = .ok (.iconst 0, 1) := by decide +kernel
theorem dX11_cart_2 : decode cX11_cart 2 = .ok (.putfield 113, 3) := by decide +kernel
theorem dX11_cart_5 : decode cX11_cart 5 = .ok (.aload_n 0, 1) := by decide +kernel
theorem dX11_cart_6 : decode cX11_cart 6 = .ok (.iload_n 1, 1) := by decide +kernel
theorem dX11_cart_7 : decode cX11_cart 7 = .ok (.iconst 0, 1) := by decide +kernel
theorem dX11_cart_8 : decode cX11_cart 8 = .ok (.iconst 3, 1) := by decide +kernel
theorem dX11_cart_9 : decode cX11_cart 9 = .ok (.invokestatic 238, 3) := by decide +kernel
theorem dX11_cart_12 : decode cX11_cart 12 = .ok (.iconst 1, 1) := by decide +kernel
theorem dX11_cart_13 : decode cX11_cart 13 = .ok (.invokevirtual 209, 3) := by decide +kernel
theorem dX11_cart_16 : decode cX11_cart 16 = .ok (.ifCond .ne 5, 3) := by decide +kernel
theorem dX11_cart_19 : decode cX11_cart 19 = .ok (.iconst 0, 1) := by decide +kernel
theorem dX11_cart_20 : decode cX11_cart 20 = .ok (.ireturn, 1) := by decide +kernel
theorem dX11_cart_21 : decode cX11_cart 21 = .ok (.iconst 0, 1) := by decide +kernel
theorem dX11_cart_22 : decode cX11_cart 22 = .ok (.istore_n 2, 1) := by decide +kernel
theorem dX11_cart_23 : decode cX11_cart 23 = .ok (.iconst (-1), 1) := by decide +kernel
theorem dX11_cart_24 : decode cX11_cart 24 = .ok (.istore_n 3, 1) := by decide +kernel
theorem dX11_cart_25 : decode cX11_cart 25 = .ok (.sipush 999, 3) := by decide +kernel
theorem dX11_cart_28 : decode cX11_cart 28 = .ok (.istore 4, 2) := by decide +kernel
theorem dX11_cart_30 : decode cX11_cart 30 = .ok (.iload 4, 2) := by decide +kernel
theorem dX11_cart_32 : decode cX11_cart 32 = .ok (.ifCond .lt 28, 3) := by decide +kernel
theorem dX11_cart_35 : decode cX11_cart 35 = .ok (.aload_n 0, 1) := by decide +kernel
theorem dX11_cart_36 : decode cX11_cart 36 = .ok (.iload 4, 2) := by decide +kernel
theorem dX11_cart_38 : decode cX11_cart 38 = .ok (.invokevirtual 307, 3) := by decide +kernel
theorem dX11_cart_41 : decode cX11_cart 41 = .ok (.iconst (-1), 1) := by decide +kernel
theorem dX11_cart_42 : decode cX11_cart 42 = .ok (.if_icmp .ne 6, 3) := by decide +kernel
theorem dX11_cart_45 : decode cX11_cart 45 = .ok (.goto 9, 3) := by decide +kernel
theorem dX11_cart_48 : decode cX11_cart 48 = .ok (.iinc 2 1, 3) := by decide +kernel
theorem dX11_cart_51 : decode cX11_cart 51 = .ok (.iload 4, 2) := by decide +kernel
theorem dX11_cart_53 : decode cX11_cart 53 = .ok (.istore_n 3, 1) := by decide +kernel
theorem dX11_cart_54 : decode cX11_cart 54 = .ok (.iinc 4 (-1), 3) := by decide +kernel
theorem dX11_cart_57 : decode cX11_cart 57 = .ok (.goto (-27), 3) := by decide +kernel
theorem dX11_cart_60 : decode cX11_cart 60 = .ok (.iload_n 1, 1) := by decide +kernel
theorem dX11_cart_61 : decode cX11_cart 61 = .ok (.iconst 2, 1) := by decide +kernel
theorem dX11_cart_62 : decode cX11_cart 62 = .ok (.if_icmp .ge 13, 3) := by decide +kernel
theorem dX11_cart_65 : decode cX11_cart 65 = .ok (.iload_n 1, 1) := by decide +kernel
theorem dX11_cart_66 : decode cX11_cart 66 = .ok (.ifCond .ne 7, 3) := by decide +kernel
theorem dX11_cart_69 : decode cX11_cart 69 = .ok (.iload_n 2, 1) := by decide +kernel
theorem dX11_cart_70 : decode cX11_cart 70 = .ok (.goto 4, 3) := by decide +kernel
theorem dX11_cart_73 : decode cX11_cart 73 = .ok (.iload_n 3, 1) := by decide +kernel
theorem dX11_cart_74 : decode cX11_cart 74 = .ok (.ireturn, 1) := by decide +kernel
theorem dX11_cart_75 : decode cX11_cart 75 = .ok (.iload_n 3, 1) := by decide +kernel
theorem dX11_cart_76 : decode cX11_cart 76 = .ok (.iconst (-1), 1) := by decide +kernel
theorem dX11_cart_77 : decode cX11_cart 77 = .ok (.if_icmp .ne 7, 3) := by decide +kernel
theorem dX11_cart_80 : decode cX11_cart 80 = .ok (.iconst 0, 1) := by decide +kernel
theorem dX11_cart_81 : decode cX11_cart 81 = .ok (.goto 15, 3) := by decide +kernel
theorem dX11_cart_84 : decode cX11_cart 84 = .ok (.aload_n 0, 1) := by decide +kernel
theorem dX11_cart_85 : decode cX11_cart 85 = .ok (.aload_n 0, 1) := by decide +kernel
theorem dX11_cart_86 : decode cX11_cart 86 = .ok (.iload_n 3, 1) := by decide +kernel
theorem dX11_cart_87 : decode cX11_cart 87 = .ok (.invokevirtual 307, 3) := by decide +kernel
theorem dX11_cart_90 : decode cX11_cart 90 = .ok (.iload_n 1, 1) := by decide +kernel
theorem dX11_cart_91 : decode cX11_cart 91 = .ok (.iconst 2, 1) := by decide +kernel
theorem dX11_cart_92 : decode cX11_cart 92 = .ok (.isub, 1) := by decide +kernel
theorem dX11_cart_93 : decode cX11_cart 93 = .ok (.invokevirtual 304, 3) := by decide +kernel
theorem dX11_cart_96 : decode cX11_cart 96 = .ok (.ireturn, 1) := by decide +kernel
theorem bX11_cart_0 {G : GX} {h : mH} {Q : mO → mH → Prop} {v1 : Int32} (hi : Iv h) (K : WM G jX11_right [.ref 83, .int (fX11_within v1 0 3), .int 1] (pI h 83 0 0) (Aft G jX11_cart 13 [some (.ref 83), some (.int v1), none, none, none] [] Q)) : Vw G jX11_cart 0 [some (.ref 83), some (.int v1), none, none, none] [] h Q :=
  s_aload_n dX11_cart_0 rfl (s_iconst 0 dX11_cart_1 (by decide) (s_putI dX11_cart_2 flX11_113 ff10_0 rfl (hi.sh rfl rfl) (s_aload_n dX11_cart_5 rfl (s_iload_n dX11_cart_6 rfl (s_iconst 0 dX11_cart_7 (by decide) (s_iconst 3 dX11_cart_8 (by decide) (s_callS (As := [.int v1, .int 0, .int 3]) dX11_cart_9 rfl lsX11_238 ⟨Nat.le_of_ble_eq_true rfl, Nat.le_of_ble_eq_true rfl⟩ rfl (Nat.le_of_ble_eq_true rfl) (mX11_within   (s_iconst 1 dX11_cart_12 (by decide) (s_callV (As := [.int (fX11_within v1 0 3), .int 1]) dX11_cart_13 rfl lvX11_209 ⟨Nat.le_of_ble_eq_true rfl, Nat.le_of_ble_eq_true rfl⟩ (hi.sh rfl rfl) ⟨_, _, by decide, rfl⟩ rfl (Nat.le_of_ble_eq_true rfl) (K)))))))))))
theorem bX11_cart_16 {G : GX} {h : mH} {Q : mO → mH → Prop} {v1 : Int32} {vs0 : Int32} (hi : Iv h) (K : (¬ vs0 = 0 → Vw G jX11_cart 30 [some (.ref 83), some (.int v1), some (.int 0), some (.int (-1)), some (.int 999)] [] h Q) ∧ (vs0 = 0 → Q (.inl (some (.int 0))) h)) : Vw G jX11_cart 16 [some (.ref 83), some (.int v1), none, none, none] [.int vs0] h Q :=
  s_if_ne 21 dX11_cart_16 rfl (fun q0 => s_iconst 0 dX11_cart_21 (by decide) (s_istore_n dX11_cart_22 (Nat.le_of_ble_eq_true rfl) rfl (s_iconst (-1) dX11_cart_23 (by decide) (s_istore_n dX11_cart_24 (Nat.le_of_ble_eq_true rfl) rfl (s_sipush 999 dX11_cart_25 (by decide) (s_istore dX11_cart_28 (Nat.le_of_ble_eq_true rfl) rfl ((K.1 q0)))))))) (fun q0 => s_iconst 0 dX11_cart_19 (by decide) (s_ireturn dX11_cart_20 rfl (K.2 q0)))
theorem bX11_cart_30 {G : GX} {h : mH} {Q : mO → mH → Prop} {v1 : Int32} {v2 : Int32} {v3 : Int32} {v4 : Int32} (hi : Iv h) (K : (v4 < 0 → ((2 ≤ v1 → ((¬ v3 = (-1) → WM G jX11_shows [.ref 83, .int v3] h (Aft G jX11_cart 87 [none, some (.int v1), none, none, none] [.ref 83] Q)) ∧ (v3 = (-1) → Vw G jX11_cart 96 [none, none, none, none, none] [.int 0] h Q))) ∧ (¬ 2 ≤ v1 → ((¬ v1 = 0 → Q (.inl (some (.int v3))) h) ∧ (v1 = 0 → Q (.inl (some (.int v2))) h))))) ∧ (¬ v4 < 0 → WM G jX11_shows [.ref 83, .int v4] h (Aft G jX11_cart 38 [some (.ref 83), some (.int v1), some (.int v2), some (.int v3), some (.int v4)] [] Q))) : Vw G jX11_cart 30 [some (.ref 83), some (.int v1), some (.int v2), some (.int v3), some (.int v4)] [] h Q :=
  s_iload dX11_cart_30 rfl (s_if_lt 60 dX11_cart_32 rfl (fun q1 => s_iload_n dX11_cart_60 rfl (s_iconst 2 dX11_cart_61 (by decide) (s_icmp_ge 75 dX11_cart_62 rfl (fun q4 => s_iload_n dX11_cart_75 rfl (s_iconst (-1) dX11_cart_76 (by decide) (s_icmp_ne 84 dX11_cart_77 rfl (fun q7 => s_aload_n dX11_cart_84 rfl (s_aload_n dX11_cart_85 rfl (s_iload_n dX11_cart_86 rfl (Vw.mask [false, true, false, false, false] (s_callV (As := [.int v3]) dX11_cart_87 rfl lvX11_307 ⟨Nat.le_of_ble_eq_true rfl, Nat.le_of_ble_eq_true rfl⟩ (hi.sh rfl rfl) ⟨_, _, by decide, rfl⟩ rfl (Nat.le_of_ble_eq_true rfl) ((((K.1 q1).1 q4).1 q7))))))) (fun q7 => s_iconst 0 dX11_cart_80 (by decide) (s_goto 96 dX11_cart_81 rfl (Vw.mask [false, false, false, false, false] ((((K.1 q1).1 q4).2 q7)))))))) (fun q4 => s_iload_n dX11_cart_65 rfl (s_if_ne 73 dX11_cart_66 rfl (fun q6 => s_iload_n dX11_cart_73 rfl (s_ireturn dX11_cart_74 rfl (((K.1 q1).2 q4).1 q6))) (fun q6 => s_iload_n dX11_cart_69 rfl (s_goto 74 dX11_cart_70 rfl (s_ireturn dX11_cart_74 rfl (((K.1 q1).2 q4).2 q6))))))))) (fun q1 => s_aload_n dX11_cart_35 rfl (s_iload dX11_cart_36 rfl (s_callV (As := [.int v4]) dX11_cart_38 rfl lvX11_307 ⟨Nat.le_of_ble_eq_true rfl, Nat.le_of_ble_eq_true rfl⟩ (hi.sh rfl rfl) ⟨_, _, by decide, rfl⟩ rfl (Nat.le_of_ble_eq_true rfl) ((K.2 q1))))))
theorem bX11_cart_41 {G : GX} {h : mH} {Q : mO → mH → Prop} {v1 : Int32} {v2 : Int32} {v3 : Int32} {v4 : Int32} {vs0 : Int32} (hi : Iv h) (K : (¬ vs0 = (-1) → Vw G jX11_cart 54 [some (.ref 83), some (.int v1), some (.int (v2 + 1)), some (.int v4), some (.int v4)] [] h Q) ∧ (vs0 = (-1) → Vw G jX11_cart 54 [some (.ref 83), some (.int v1), some (.int v2), some (.int v3), some (.int v4)] [] h Q)) : Vw G jX11_cart 41 [some (.ref 83), some (.int v1), some (.int v2), some (.int v3), some (.int v4)] [.int vs0] h Q :=
  s_iconst (-1) dX11_cart_41 (by decide) (s_icmp_ne 48 dX11_cart_42 rfl (fun q1 => s_iinc 1 dX11_cart_48 rfl (by decide) (Nat.le_of_ble_eq_true rfl) rfl (s_iload dX11_cart_51 rfl (s_istore_n dX11_cart_53 (Nat.le_of_ble_eq_true rfl) rfl ((K.1 q1))))) (fun q1 => s_goto 54 dX11_cart_45 rfl ((K.2 q1))))
theorem bX11_cart_54 {G : GX} {h : mH} {Q : mO → mH → Prop} {v1 : Int32} {v2 : Int32} {v3 : Int32} {v4 : Int32} (hi : Iv h) (K : Vw G jX11_cart 30 [some (.ref 83), some (.int v1), some (.int v2), some (.int v3), some (.int (v4 + (-1)))] [] h Q) : Vw G jX11_cart 54 [some (.ref 83), some (.int v1), some (.int v2), some (.int v3), some (.int v4)] [] h Q :=
  s_iinc (-1) dX11_cart_54 rfl (by decide) (Nat.le_of_ble_eq_true rfl) rfl (s_goto 30 dX11_cart_57 rfl (K))
theorem bX11_cart_90 {G : GX} {h : mH} {Q : mO → mH → Prop} {v1 : Int32} {vs0 : Int32} (hi : Iv h) (K : WM G jX11_wayOf [.ref 83, .int vs0, .int (v1 - 2)] h (Aft G jX11_cart 93 [none, none, none, none, none] [] Q)) : Vw G jX11_cart 90 [none, some (.int v1), none, none, none] [.int vs0, .ref 83] h Q :=
  s_iload_n dX11_cart_90 rfl (s_iconst 2 dX11_cart_91 (by decide) (s_isub dX11_cart_92 (Vw.mask [false, false, false, false, false] (s_callV (As := [.int vs0, .int (v1 - 2)]) dX11_cart_93 rfl lvX11_304 ⟨Nat.le_of_ble_eq_true rfl, Nat.le_of_ble_eq_true rfl⟩ (hi.sh rfl rfl) ⟨_, _, by decide, rfl⟩ rfl (Nat.le_of_ble_eq_true rfl) (K)))))
theorem bX11_cart_96 {G : GX} {h : mH} {Q : mO → mH → Prop} {vs0 : Int32} (hi : Iv h) (K : Q (.inl (some (.int vs0))) h) : Vw G jX11_cart 96 [none, none, none, none, none] [.int vs0] h Q :=
  s_ireturn dX11_cart_96 rfl K
theorem eX11_cart {G : GX} {h : mH} {Q : mO → mH → Prop} {v1 : Int32} (hi : Iv h) (K : WM G jX11_right [.ref 83, .int (fX11_within v1 0 3), .int 1] (pI h 83 0 0) (Aft G jX11_cart 13 [some (.ref 83), some (.int v1), none, none, none] [] Q)) : WM G jX11_cart [.ref 83, .int v1] h Q :=
  WM.body (ls := [some (.ref 83), some (.int v1), none, none, none]) rfl (by decide +kernel) rfl (Nat.le_of_ble_eq_true rfl) rfl ((bX11_cart_0 hi  K))
theorem dX11_birthday_0 : decode cX11_birthday 0 = .ok (.aload_n 0, 1) := by decide +kernel
theorem dX11_birthday_1 : decode cX11_birthday 1 = .ok (.iconst 0, 1) := by decide +kernel
theorem dX11_birthday_2 : decode cX11_birthday 2 = .ok (.putfield 113, 3) := by decide +kernel
theorem dX11_birthday_5 : decode cX11_birthday 5 = .ok (.aload_n 0, 1) := by decide +kernel
theorem dX11_birthday_6 : decode cX11_birthday 6 = .ok (.getfield 232, 3) := by decide +kernel
theorem dX11_birthday_9 : decode cX11_birthday 9 = .ok (.bipush 10, 2) := by decide +kernel
theorem dX11_birthday_11 : decode cX11_birthday 11 = .ok (.if_icmp .eq 14, 3) := by decide +kernel
theorem dX11_birthday_14 : decode cX11_birthday 14 = .ok (.iload_n 1, 1) := by decide +kernel
theorem dX11_birthday_15 : decode cX11_birthday 15 = .ok (.iconst 0, 1) := by decide +kernel
theorem dX11_birthday_16 : decode cX11_birthday 16 = .ok (.sipush 364, 3) := by decide +kernel
theorem dX11_birthday_19 : decode cX11_birthday 19 = .ok (.invokestatic 238, 3) := by decide +kernel
theorem dX11_birthday_22 : decode cX11_birthday 22 = .ok (.ifCond .ne 9, 3) := by decide +kernel
theorem dX11_birthday_25 : decode cX11_birthday 25 = .ok (.aload_n 0, 1) := by decide +kernel
theorem dX11_birthday_26 : decode cX11_birthday 26 = .ok (.iconst 4, 1) := by decide +kernel
theorem dX11_birthday_27 : decode cX11_birthday 27 = .ok (.invokevirtual 249, 3) := by decide +kernel
theorem dX11_birthday_30 : decode cX11_birthday 30 = .ok (.ireturn, 1) := by decide +kernel
theorem dX11_birthday_31 : decode cX11_birthday 31 = .ok (.aload_n 0, 1) := by decide +kernel
theorem dX11_birthday_32 : decode cX11_birthday 32 = .ok (.getfield 65, 3) := by decide +kernel
theorem dX11_birthday_35 : decode cX11_birthday 35 = .ok (.aload_n 0, 1) := by decide +kernel
theorem dX11_birthday_36 : decode cX11_birthday 36 = .ok (.getfield 232, 3) := by decide +kernel
theorem dX11_birthday_39 : decode cX11_birthday 39 = .ok (.iload_n 1, 1) := by decide +kernel
theorem dX11_birthday_40 : decode cX11_birthday 40 = .ok (.iastore, 1) := by decide +kernel
theorem dX11_birthday_41 : decode cX11_birthday 41 = .ok (.aload_n 0, 1) := by decide +kernel
theorem dX11_birthday_42 : decode cX11_birthday 42 = .ok (.dup, 1) := by decide +kernel
theorem dX11_birthday_43 : decode cX11_birthday 43 = .ok (.getfield 232, 3) := by decide +kernel
theorem dX11_birthday_46 : decode cX11_birthday 46 = .ok (.iconst 1, 1) := by decide +kernel
theorem dX11_birthday_47 : decode cX11_birthday 47 = .ok (.iadd, 1) := by decide +kernel
theorem dX11_birthday_48 : decode cX11_birthday 48 = .ok (.putfield 232, 3) := by decide +kernel
theorem dX11_birthday_51 : decode cX11_birthday 51 = .ok (.aload_n 0, 1) := by decide +kernel
theorem dX11_birthday_52 : decode cX11_birthday 52 = .ok (.getfield 232, 3) := by decide +kernel
theorem dX11_birthday_55 : decode cX11_birthday 55 = .ok (.ireturn, 1) := by decide +kernel
theorem bX11_birthday_0 {G : GX} {h : mH} {Q : mO → mH → Prop} {v1 : Int32} (hi : Iv h) (K : ((gI (pI h 83 0 0) 83 36) = 10 → Vw G jX11_birthday 25 [some (.ref 83), none] [] (pI h 83 0 0) Q) ∧ (¬ (gI (pI h 83 0 0) 83 36) = 10 → ((¬ (fX11_within v1 0 364) = 0 → (vp_in (gI (pI h 83 0 0) 83 36) 10 ∧ Q (.inl (some (.int (gI (pI (pI (pI h 83 0 0) 101 (Int32.toNatClampNeg (gI (pI h 83 0 0) 83 36)) v1) 83 36 ((gI (pI (pI h 83 0 0) 101 (Int32.toNatClampNeg (gI (pI h 83 0 0) 83 36)) v1) 83 36) + 1)) 83 36)))) (pI (pI (pI h 83 0 0) 101 (Int32.toNatClampNeg (gI (pI h 83 0 0) 83 36)) v1) 83 36 ((gI (pI (pI h 83 0 0) 101 (Int32.toNatClampNeg (gI (pI h 83 0 0) 83 36)) v1) 83 36) + 1)))) ∧ ((fX11_within v1 0 364) = 0 → Vw G jX11_birthday 25 [some (.ref 83), none] [] (pI h 83 0 0) Q)))) : Vw G jX11_birthday 0 [some (.ref 83), some (.int v1)] [] h Q :=
  s_aload_n dX11_birthday_0 rfl (s_iconst 0 dX11_birthday_1 (by decide) (s_putI dX11_birthday_2 flX11_113 ff10_0 rfl (hi.sh rfl rfl) (s_aload_n dX11_birthday_5 rfl (s_getI dX11_birthday_6 flX11_232 (Or.inl rfl) (hi.sh rfl rfl) (s_bipush 10 dX11_birthday_9 (by decide) (s_icmp_eq 25 dX11_birthday_11 rfl (fun q6 => Vw.mask [true, false] ((K.1 q6))) (fun q6 => s_iload_n dX11_birthday_14 rfl (s_iconst 0 dX11_birthday_15 (by decide) (s_sipush 364 dX11_birthday_16 (by decide) (s_callS (As := [.int v1, .int 0, .int 364]) dX11_birthday_19 rfl lsX11_238 ⟨Nat.le_of_ble_eq_true rfl, Nat.le_of_ble_eq_true rfl⟩ rfl (Nat.le_of_ble_eq_true rfl) (mX11_within   (s_if_ne 31 dX11_birthday_22 rfl (fun q11 => s_aload_n dX11_birthday_31 rfl (s_getR (v := .ref 101) dX11_birthday_32 flX11_65 rfl (hi.sh rfl rfl) (hi.rf (o := 83) (k := 37) (d := 18) rfl rfl) (s_aload_n dX11_birthday_35 rfl (s_getI dX11_birthday_36 flX11_232 (Or.inl rfl) (hi.sh rfl rfl) (s_iload_n dX11_birthday_39 rfl (s_iastore dX11_birthday_40 (hi.sh rfl rfl) ((K.2 q6).1 q11).1 (s_aload_n dX11_birthday_41 rfl (s_dupr dX11_birthday_42 (s_getI dX11_birthday_43 flX11_232 (Or.inl rfl) (hi.sh rfl rfl) (s_iconst 1 dX11_birthday_46 (by decide) (s_iadd dX11_birthday_47 (s_putI dX11_birthday_48 flX11_232 ff10_36 rfl (hi.sh rfl rfl) (s_aload_n dX11_birthday_51 rfl (s_getI dX11_birthday_52 flX11_232 (Or.inl rfl) (hi.sh rfl rfl) (s_ireturn dX11_birthday_55 rfl ((K.2 q6).1 q11).2))))))))))))))) (fun q11 => Vw.mask [true, false] (((K.2 q6).2 q11)))))))))))))))
theorem bX11_birthday_25 {G : GX} {h : mH} {Q : mO → mH → Prop} (hi : Iv h) (K : WM G jX11_refuses [.ref 83, .int 4] h (Aft G jX11_birthday 27 [none, none] [] Q)) : Vw G jX11_birthday 25 [some (.ref 83), none] [] h Q :=
  s_aload_n dX11_birthday_25 rfl (s_iconst 4 dX11_birthday_26 (by decide) (Vw.mask [false, false] (s_callV (As := [.int 4]) dX11_birthday_27 rfl lvX11_249 ⟨Nat.le_of_ble_eq_true rfl, Nat.le_of_ble_eq_true rfl⟩ (hi.sh rfl rfl) ⟨_, _, by decide, rfl⟩ rfl (Nat.le_of_ble_eq_true rfl) (K))))
theorem bX11_birthday_30 {G : GX} {h : mH} {Q : mO → mH → Prop} {vs0 : Int32} (hi : Iv h) (K : Q (.inl (some (.int vs0))) h) : Vw G jX11_birthday 30 [none, none] [.int vs0] h Q :=
  s_ireturn dX11_birthday_30 rfl K
theorem eX11_birthday {G : GX} {h : mH} {Q : mO → mH → Prop} {v1 : Int32} (hi : Iv h) (K : ((gI (pI h 83 0 0) 83 36) = 10 → Vw G jX11_birthday 25 [some (.ref 83), none] [] (pI h 83 0 0) Q) ∧ (¬ (gI (pI h 83 0 0) 83 36) = 10 → ((¬ (fX11_within v1 0 364) = 0 → (vp_in (gI (pI h 83 0 0) 83 36) 10 ∧ Q (.inl (some (.int (gI (pI (pI (pI h 83 0 0) 101 (Int32.toNatClampNeg (gI (pI h 83 0 0) 83 36)) v1) 83 36 ((gI (pI (pI h 83 0 0) 101 (Int32.toNatClampNeg (gI (pI h 83 0 0) 83 36)) v1) 83 36) + 1)) 83 36)))) (pI (pI (pI h 83 0 0) 101 (Int32.toNatClampNeg (gI (pI h 83 0 0) 83 36)) v1) 83 36 ((gI (pI (pI h 83 0 0) 101 (Int32.toNatClampNeg (gI (pI h 83 0 0) 83 36)) v1) 83 36) + 1)))) ∧ ((fX11_within v1 0 364) = 0 → Vw G jX11_birthday 25 [some (.ref 83), none] [] (pI h 83 0 0) Q)))) : WM G jX11_birthday [.ref 83, .int v1] h Q :=
  WM.body (ls := [some (.ref 83), some (.int v1)]) rfl (by decide +kernel) rfl (Nat.le_of_ble_eq_true rfl) rfl ((bX11_birthday_0 hi  K))
theorem dX11_forget_0 : decode cX11_forget 0 = .ok (.aload_n 0, 1) := by decide +kernel
theorem dX11_forget_1 : decode cX11_forget 1 = .ok (.iconst 0, 1) := by decide +kernel
theorem dX11_forget_2 : decode cX11_forget 2 = .ok (.putfield 113, 3) := by decide +kernel
theorem dX11_forget_5 : decode cX11_forget 5 = .ok (.aload_n 0, 1) := by decide +kernel
theorem dX11_forget_6 : decode cX11_forget 6 = .ok (.getfield 232, 3) := by decide +kernel
theorem dX11_forget_9 : decode cX11_forget 9 = .ok (.istore_n 1, 1) := by decide +kernel
theorem dX11_forget_10 : decode cX11_forget 10 = .ok (.aload_n 0, 1) := by decide +kernel
theorem dX11_forget_11 : decode cX11_forget 11 = .ok (.iconst 0, 1) := by decide +kernel
theorem dX11_forget_12 : decode cX11_forget 12 = .ok (.putfield 232, 3) := by decide +kernel
theorem dX11_forget_15 : decode cX11_forget 15 = .ok (.iload_n 1, 1) := by decide +kernel
theorem dX11_forget_16 : decode cX11_forget 16 = .ok (.ireturn, 1) := by decide +kernel
theorem bX11_forget_0 {G : GX} {h : mH} {Q : mO → mH → Prop} (hi : Iv h) (K : Q (.inl (some (.int (gI (pI h 83 0 0) 83 36)))) (pI (pI h 83 0 0) 83 36 0)) : Vw G jX11_forget 0 [some (.ref 83), none] [] h Q :=
  s_aload_n dX11_forget_0 rfl (s_iconst 0 dX11_forget_1 (by decide) (s_putI dX11_forget_2 flX11_113 ff10_0 rfl (hi.sh rfl rfl) (s_aload_n dX11_forget_5 rfl (s_getI dX11_forget_6 flX11_232 (Or.inl rfl) (hi.sh rfl rfl) (s_istore_n dX11_forget_9 (Nat.le_of_ble_eq_true rfl) rfl (s_aload_n dX11_forget_10 rfl (s_iconst 0 dX11_forget_11 (by decide) (s_putI dX11_forget_12 flX11_232 ff10_36 rfl (hi.sh rfl rfl) (s_iload_n dX11_forget_15 rfl (s_ireturn dX11_forget_16 rfl K))))))))))
theorem eX11_forget {G : GX} {h : mH} {Q : mO → mH → Prop} (hi : Iv h) (K : Q (.inl (some (.int (gI (pI h 83 0 0) 83 36)))) (pI (pI h 83 0 0) 83 36 0)) : WM G jX11_forget [.ref 83] h Q :=
  WM.body (ls := [some (.ref 83), none]) rfl (by decide +kernel) rfl (Nat.le_of_ble_eq_true rfl) rfl ((bX11_forget_0 hi  K))
theorem dX11_unlike_0 : decode cX11_unlike 0 = .ok (.iconst 0, 1) := by decide +kernel
theorem dX11_unlike_1 : decode cX11_unlike 1 = .ok (.istore_n 2, 1) := by decide +kernel
theorem dX11_unlike_2 : decode cX11_unlike 2 = .ok (.iload_n 0, 1) := by decide +kernel
theorem dX11_unlike_3 : decode cX11_unlike 3 = .ok (.istore_n 3, 1) := by decide +kernel
theorem dX11_unlike_4 : decode cX11_unlike 4 = .ok (.iload_n 1, 1) := by decide +kernel
theorem dX11_unlike_5 : decode cX11_unlike 5 = .ok (.istore 4, 2) := by decide +kernel
theorem dX11_unlike_7 : decode cX11_unlike 7 = .ok (.iconst 0, 1) := by decide +kernel
theorem dX11_unlike_8 : decode cX11_unlike 8 = .ok (.istore 5, 2) := by decide +kernel
theorem dX11_unlike_10 : decode cX11_unlike 10 = .ok (.iload 5, 2) := by decide +kernel
theorem dX11_unlike_12 : decode cX11_unlike 12 = .ok (.iconst 4, 1) := by decide +kernel
theorem dX11_unlike_13 : decode cX11_unlike 13 = .ok (.if_icmp .ge 41, 3) := by decide +kernel
theorem dX11_unlike_16 : decode cX11_unlike 16 = .ok (.iload_n 2, 1) := by decide +kernel
theorem dX11_unlike_17 : decode cX11_unlike 17 = .ok (.iload_n 3, 1) := by decide +kernel
theorem dX11_unlike_18 : decode cX11_unlike 18 = .ok (.bipush 10, 2) := by decide +kernel
theorem dX11_unlike_20 : decode cX11_unlike 20 = .ok (.irem, 1) := by decide +kernel
theorem dX11_unlike_21 : decode cX11_unlike 21 = .ok (.iload 4, 2) := by decide +kernel
theorem dX11_unlike_23 : decode cX11_unlike 23 = .ok (.bipush 10, 2) := by decide +kernel
theorem dX11_unlike_25 : decode cX11_unlike 25 = .ok (.irem, 1) := by decide +kernel
theorem dX11_unlike_26 : decode cX11_unlike 26 = .ok (.if_icmp .eq 7, 3) := by decide +kernel
theorem dX11_unlike_29 : decode cX11_unlike 29 = .ok (.iconst 1, 1) := by decide +kernel
theorem dX11_unlike_30 : decode cX11_unlike 30 = .ok (.goto 4, 3) := by decide +kernel
theorem dX11_unlike_33 : decode cX11_unlike 33 = .ok (.iconst 0, 1) := by decide +kernel
theorem dX11_unlike_34 : decode cX11_unlike 34 = .ok (.iadd, 1) := by decide +kernel
theorem dX11_unlike_35 : decode cX11_unlike 35 = .ok (.istore_n 2, 1) := by decide +kernel
theorem dX11_unlike_36 : decode cX11_unlike 36 = .ok (.iload_n 3, 1) := by decide +kernel
theorem dX11_unlike_37 : decode cX11_unlike 37 = .ok (.bipush 10, 2) := by decide +kernel
theorem dX11_unlike_39 : decode cX11_unlike 39 = .ok (.idiv, 1) := by decide +kernel
theorem dX11_unlike_40 : decode cX11_unlike 40 = .ok (.istore_n 3, 1) := by decide +kernel
theorem dX11_unlike_41 : decode cX11_unlike 41 = .ok (.iload 4, 2) := by decide +kernel
theorem dX11_unlike_43 : decode cX11_unlike 43 = .ok (.bipush 10, 2) := by decide +kernel
theorem dX11_unlike_45 : decode cX11_unlike 45 = .ok (.idiv, 1) := by decide +kernel
theorem dX11_unlike_46 : decode cX11_unlike 46 = .ok (.istore 4, 2) := by decide +kernel
theorem dX11_unlike_48 : decode cX11_unlike 48 = .ok (.iinc 5 1, 3) := by decide +kernel
theorem dX11_unlike_51 : decode cX11_unlike 51 = .ok (.goto (-41), 3) := by decide +kernel
theorem dX11_unlike_54 : decode cX11_unlike 54 = .ok (.iload_n 2, 1) := by decide +kernel
theorem dX11_unlike_55 : decode cX11_unlike 55 = .ok (.ireturn, 1) := by decide +kernel
theorem bX11_unlike_0 {G : GX} {h : mH} {Q : mO → mH → Prop} {v0 : Int32} {v1 : Int32} (hi : Iv h) (K : Vw G jX11_unlike 10 [none, none, some (.int 0), some (.int v0), some (.int v1), some (.int 0)] [] h Q) : Vw G jX11_unlike 0 [some (.int v0), some (.int v1), none, none, none, none] [] h Q :=
  s_iconst 0 dX11_unlike_0 (by decide) (s_istore_n dX11_unlike_1 (Nat.le_of_ble_eq_true rfl) rfl (s_iload_n dX11_unlike_2 rfl (s_istore_n dX11_unlike_3 (Nat.le_of_ble_eq_true rfl) rfl (s_iload_n dX11_unlike_4 rfl (s_istore dX11_unlike_5 (Nat.le_of_ble_eq_true rfl) rfl (s_iconst 0 dX11_unlike_7 (by decide) (s_istore dX11_unlike_8 (Nat.le_of_ble_eq_true rfl) rfl (Vw.mask [false, false, true, true, true, true] (K)))))))))
theorem bX11_unlike_10 {G : GX} {h : mH} {Q : mO → mH → Prop} {v2 : Int32} {v3 : Int32} {v4 : Int32} {v5 : Int32} (hi : Iv h) (K : (4 ≤ v5 → Q (.inl (some (.int v2))) h) ∧ (¬ 4 ≤ v5 → (((v3 - v3 / (10 : Int32) * (10 : Int32)) = (v4 - v4 / (10 : Int32) * (10 : Int32)) → Vw G jX11_unlike 10 [none, none, some (.int (v2 + 0)), some (.int (v3 / (10 : Int32))), some (.int (v4 / (10 : Int32))), some (.int (v5 + 1))] [] h Q) ∧ (¬ (v3 - v3 / (10 : Int32) * (10 : Int32)) = (v4 - v4 / (10 : Int32) * (10 : Int32)) → Vw G jX11_unlike 10 [none, none, some (.int (v2 + 1)), some (.int (v3 / (10 : Int32))), some (.int (v4 / (10 : Int32))), some (.int (v5 + 1))] [] h Q)))) : Vw G jX11_unlike 10 [none, none, some (.int v2), some (.int v3), some (.int v4), some (.int v5)] [] h Q :=
  s_iload dX11_unlike_10 rfl (s_iconst 4 dX11_unlike_12 (by decide) (s_icmp_ge 54 dX11_unlike_13 rfl (fun q2 => s_iload_n dX11_unlike_54 rfl (s_ireturn dX11_unlike_55 rfl (K.1 q2))) (fun q2 => s_iload_n dX11_unlike_16 rfl (s_iload_n dX11_unlike_17 rfl (s_bipush 10 dX11_unlike_18 (by decide) (s_irem dX11_unlike_20 (by decide) (s_iload dX11_unlike_21 rfl (s_bipush 10 dX11_unlike_23 (by decide) (s_irem dX11_unlike_25 (by decide) (s_icmp_eq 33 dX11_unlike_26 rfl (fun q10 => s_iconst 0 dX11_unlike_33 (by decide) (s_iadd dX11_unlike_34 (s_istore_n dX11_unlike_35 (Nat.le_of_ble_eq_true rfl) rfl (s_iload_n dX11_unlike_36 rfl (s_bipush 10 dX11_unlike_37 (by decide) (s_idiv dX11_unlike_39 (by decide) (s_istore_n dX11_unlike_40 (Nat.le_of_ble_eq_true rfl) rfl (s_iload dX11_unlike_41 rfl (s_bipush 10 dX11_unlike_43 (by decide) (s_idiv dX11_unlike_45 (by decide) (s_istore dX11_unlike_46 (Nat.le_of_ble_eq_true rfl) rfl (s_iinc 1 dX11_unlike_48 rfl (by decide) (Nat.le_of_ble_eq_true rfl) rfl (s_goto 10 dX11_unlike_51 rfl (((K.2 q2).1 q10))))))))))))))) (fun q10 => s_iconst 1 dX11_unlike_29 (by decide) (s_goto 34 dX11_unlike_30 rfl (s_iadd dX11_unlike_34 (s_istore_n dX11_unlike_35 (Nat.le_of_ble_eq_true rfl) rfl (s_iload_n dX11_unlike_36 rfl (s_bipush 10 dX11_unlike_37 (by decide) (s_idiv dX11_unlike_39 (by decide) (s_istore_n dX11_unlike_40 (Nat.le_of_ble_eq_true rfl) rfl (s_iload dX11_unlike_41 rfl (s_bipush 10 dX11_unlike_43 (by decide) (s_idiv dX11_unlike_45 (by decide) (s_istore dX11_unlike_46 (Nat.le_of_ble_eq_true rfl) rfl (s_iinc 1 dX11_unlike_48 rfl (by decide) (Nat.le_of_ble_eq_true rfl) rfl (s_goto 10 dX11_unlike_51 rfl (((K.2 q2).2 q10))))))))))))))))))))))))))
theorem eX11_unlike {G : GX} {h : mH} {Q : mO → mH → Prop} {v0 : Int32} {v1 : Int32} (hi : Iv h) (K : Vw G jX11_unlike 10 [none, none, some (.int 0), some (.int v0), some (.int v1), some (.int 0)] [] h Q) : WM G jX11_unlike [.int v0, .int v1] h Q :=
  WM.body (ls := [some (.int v0), some (.int v1), none, none, none, none]) rfl (by decide +kernel) rfl (Nat.le_of_ble_eq_true rfl) rfl ((bX11_unlike_0 hi  K))
theorem dX11_fewest_0 : decode cX11_fewest 0 = .ok (.iconst 4, 1) := by decide +kernel
theorem dX11_fewest_1 : decode cX11_fewest 1 = .ok (.istore_n 2, 1) := by decide +kernel
theorem dX11_fewest_2 : decode cX11_fewest 2 = .ok (.iconst 0, 1) := by decide +kernel
theorem dX11_fewest_3 : decode cX11_fewest 3 = .ok (.istore_n 3, 1) := by decide +kernel
theorem dX11_fewest_4 : decode cX11_fewest 4 = .ok (.iload_n 3, 1) := by decide +kernel
theorem dX11_fewest_5 : decode cX11_fewest 5 = .ok (.aload_n 0, 1) := by decide +kernel
theorem dX11_fewest_6 : decode cX11_fewest 6 = .ok (.getfield 232, 3) := by decide +kernel
theorem dX11_fewest_9 : decode cX11_fewest 9 = .ok (.if_icmp .ge 111, 3) := by decide +kernel
theorem dX11_fewest_12 : decode cX11_fewest 12 = .ok (.iconst 0, 1) := by decide +kernel
theorem dX11_fewest_13 : decode cX11_fewest 13 = .ok (.istore 4, 2) := by decide +kernel
theorem dX11_fewest_15 : decode cX11_fewest 15 = .ok (.iload 4, 2) := by decide +kernel
theorem dX11_fewest_17 : decode cX11_fewest 17 = .ok (.iload_n 3, 1) := by decide +kernel
theorem dX11_fewest_18 : decode cX11_fewest 18 = .ok (.if_icmp .ge 96, 3) := by decide +kernel
theorem dX11_fewest_21 : decode cX11_fewest 21 = .ok (.aload_n 0, 1) := by decide +kernel
theorem dX11_fewest_22 : decode cX11_fewest 22 = .ok (.getfield 65, 3) := by decide +kernel
theorem dX11_fewest_25 : decode cX11_fewest 25 = .ok (.iload_n 3, 1) := by decide +kernel
theorem dX11_fewest_26 : decode cX11_fewest 26 = .ok (.iaload, 1) := by decide +kernel
theorem dX11_fewest_27 : decode cX11_fewest 27 = .ok (.aload_n 0, 1) := by decide +kernel
theorem dX11_fewest_28 : decode cX11_fewest 28 = .ok (.getfield 65, 3) := by decide +kernel
theorem dX11_fewest_31 : decode cX11_fewest 31 = .ok (.iload 4, 2) := by decide +kernel
theorem dX11_fewest_33 : decode cX11_fewest 33 = .ok (.iaload, 1) := by decide +kernel
theorem dX11_fewest_34 : decode cX11_fewest 34 = .ok (.if_icmp .ne 6, 3) := by decide +kernel
theorem dX11_fewest_37 : decode cX11_fewest 37 = .ok (.goto 71, 3) := by decide +kernel
theorem dX11_fewest_40 : decode cX11_fewest 40 = .ok (.aload_n 0, 1) := by decide +kernel
theorem dX11_fewest_41 : decode cX11_fewest 41 = .ok (.getfield 65, 3) := by decide +kernel
theorem dX11_fewest_44 : decode cX11_fewest 44 = .ok (.iload_n 3, 1) := by decide +kernel
theorem dX11_fewest_45 : decode cX11_fewest 45 = .ok (.iaload, 1) := by decide +kernel
theorem dX11_fewest_46 : decode cX11_fewest 46 = .ok (.iload_n 1, 1) := by decide +kernel
theorem dX11_fewest_47 : decode cX11_fewest 47 = .ok (.imul, 1) := by decide +kernel
theorem dX11_fewest_48 : decode cX11_fewest 48 = .ok (.sipush 10000, 3) := by decide +kernel
theorem dX11_fewest_51 : decode cX11_fewest 51 = .ok (.irem, 1) := by decide +kernel
theorem dX11_fewest_52 : decode cX11_fewest 52 = .ok (.aload_n 0, 1) := by decide +kernel
theorem dX11_fewest_53 : decode cX11_fewest 53 = .ok (.getfield 65, 3) := by decide +kernel
theorem dX11_fewest_56 : decode cX11_fewest 56 = .ok (.iload 4, 2) := by decide +kernel
theorem dX11_fewest_58 : decode cX11_fewest 58 = .ok (.iaload, 1) := by decide +kernel
theorem dX11_fewest_59 : decode cX11_fewest 59 = .ok (.iload_n 1, 1) := by decide +kernel
theorem dX11_fewest_60 : decode cX11_fewest 60 = .ok (.imul, 1) := by decide +kernel
theorem dX11_fewest_61 : decode cX11_fewest 61 = .ok (.sipush 10000, 3) := by decide +kernel
theorem dX11_fewest_64 : decode cX11_fewest 64 = .ok (.irem, 1) := by decide +kernel
theorem dX11_fewest_65 : decode cX11_fewest 65 = .ok (.invokestatic 310, 3) := by decide +kernel
theorem dX11_fewest_68 : decode cX11_fewest 68 = .ok (.istore 5, 2) := by decide +kernel
theorem dX11_fewest_70 : decode cX11_fewest 70 = .ok (.iload 5, 2) := by decide +kernel
theorem dX11_fewest_72 : decode cX11_fewest 72 = .ok (.ifCond .ne 5, 3) := by decide +kernel
theorem dX11_fewest_75 : decode cX11_fewest 75 = .ok (.iconst (-1), 1) := by decide +kernel
theorem dX11_fewest_76 : decode cX11_fewest 76 = .ok (.ireturn, 1) := by decide +kernel
theorem dX11_fewest_77 : decode cX11_fewest 77 = .ok (.aload_n 0, 1) := by decide +kernel
theorem dX11_fewest_78 : decode cX11_fewest 78 = .ok (.getfield 65, 3) := by decide +kernel
theorem dX11_fewest_81 : decode cX11_fewest 81 = .ok (.iload_n 3, 1) := by decide +kernel
theorem dX11_fewest_82 : decode cX11_fewest 82 = .ok (.iaload, 1) := by decide +kernel
theorem dX11_fewest_83 : decode cX11_fewest 83 = .ok (.aload_n 0, 1) := by decide +kernel
theorem dX11_fewest_84 : decode cX11_fewest 84 = .ok (.getfield 65, 3) := by decide +kernel
theorem dX11_fewest_87 : decode cX11_fewest 87 = .ok (.iload 4, 2) := by decide +kernel
theorem dX11_fewest_89 : decode cX11_fewest 89 = .ok (.iaload, 1) := by decide +kernel
theorem dX11_fewest_90 : decode cX11_fewest 90 = .ok (.isub, 1) := by decide +kernel
theorem dX11_fewest_91 : decode cX11_fewest 91 = .ok (.invokestatic 279, 3) := by decide +kernel
theorem dX11_fewest_94 : decode cX11_fewest 94 = .ok (.bipush 7, 2) := by decide +kernel
theorem dX11_fewest_96 : decode cX11_fewest 96 = .ok (.if_icmp .gt 12, 3) := by decide +kernel
theorem dX11_fewest_99 : decode cX11_fewest 99 = .ok (.iload 5, 2) := by decide +kernel
theorem dX11_fewest_101 : decode cX11_fewest 101 = .ok (.iload_n 2, 1) := by decide +kernel
theorem dX11_fewest_102 : decode cX11_fewest 102 = .ok (.if_icmp .ge 6, 3) := by decide +kernel
theorem dX11_fewest_105 : decode cX11_fewest 105 = .ok (.iload 5, 2) := by decide +kernel
theorem dX11_fewest_107 : decode cX11_fewest 107 = .ok (.istore_n 2, 1) := by decide +kernel
theorem dX11_fewest_108 : decode cX11_fewest 108 = .ok (.iinc 4 1, 3) := by decide +kernel
theorem dX11_fewest_111 : decode cX11_fewest 111 = .ok (.goto (-96), 3) := by decide +kernel
theorem dX11_fewest_114 : decode cX11_fewest 114 = .ok (.iinc 3 1, 3) := by decide +kernel
theorem dX11_fewest_117 : decode cX11_fewest 117 = .ok (.goto (-113), 3) := by decide +kernel
theorem dX11_fewest_120 : decode cX11_fewest 120 = .ok (.iload_n 2, 1) := by decide +kernel
theorem dX11_fewest_121 : decode cX11_fewest 121 = .ok (.ireturn, 1) := by decide +kernel
theorem bX11_fewest_0 {G : GX} {h : mH} {Q : mO → mH → Prop} {v1 : Int32} (hi : Iv h) (K : Vw G jX11_fewest 4 [some (.ref 83), some (.int v1), some (.int 4), some (.int 0), none, none] [] h Q) : Vw G jX11_fewest 0 [some (.ref 83), some (.int v1), none, none, none, none] [] h Q :=
  s_iconst 4 dX11_fewest_0 (by decide) (s_istore_n dX11_fewest_1 (Nat.le_of_ble_eq_true rfl) rfl (s_iconst 0 dX11_fewest_2 (by decide) (s_istore_n dX11_fewest_3 (Nat.le_of_ble_eq_true rfl) rfl (K))))
theorem bX11_fewest_4 {G : GX} {h : mH} {Q : mO → mH → Prop} {v1 : Int32} {v2 : Int32} {v3 : Int32} (hi : Iv h) (K : ((gI h 83 36) ≤ v3 → Q (.inl (some (.int v2))) h) ∧ (¬ (gI h 83 36) ≤ v3 → Vw G jX11_fewest 15 [some (.ref 83), some (.int v1), some (.int v2), some (.int v3), some (.int 0), none] [] h Q)) : Vw G jX11_fewest 4 [some (.ref 83), some (.int v1), some (.int v2), some (.int v3), none, none] [] h Q :=
  s_iload_n dX11_fewest_4 rfl (s_aload_n dX11_fewest_5 rfl (s_getI dX11_fewest_6 flX11_232 (Or.inl rfl) (hi.sh rfl rfl) (s_icmp_ge 120 dX11_fewest_9 rfl (fun q3 => s_iload_n dX11_fewest_120 rfl (s_ireturn dX11_fewest_121 rfl (K.1 q3))) (fun q3 => s_iconst 0 dX11_fewest_12 (by decide) (s_istore dX11_fewest_13 (Nat.le_of_ble_eq_true rfl) rfl ((K.2 q3)))))))
theorem bX11_fewest_15 {G : GX} {h : mH} {Q : mO → mH → Prop} {v1 : Int32} {v2 : Int32} {v3 : Int32} {v4 : Int32} (hi : Iv h) (K : (v3 ≤ v4 → Vw G jX11_fewest 4 [some (.ref 83), some (.int v1), some (.int v2), some (.int (v3 + 1)), none, none] [] h Q) ∧ (¬ v3 ≤ v4 → (vp_in v3 10 ∧ (vp_in v4 10 ∧ ((¬ (gI h 101 (Int32.toNatClampNeg v3)) = (gI h 101 (Int32.toNatClampNeg v4)) → (vp_in v3 10 ∧ (vp_in v4 10 ∧ WM G jX11_unlike [.int (((gI h 101 (Int32.toNatClampNeg v3)) * v1) - ((gI h 101 (Int32.toNatClampNeg v3)) * v1) / (10000 : Int32) * (10000 : Int32)), .int (((gI h 101 (Int32.toNatClampNeg v4)) * v1) - ((gI h 101 (Int32.toNatClampNeg v4)) * v1) / (10000 : Int32) * (10000 : Int32))] h (Aft G jX11_fewest 65 [some (.ref 83), some (.int v1), some (.int v2), some (.int v3), some (.int v4), none] [] Q)))) ∧ ((gI h 101 (Int32.toNatClampNeg v3)) = (gI h 101 (Int32.toNatClampNeg v4)) → Vw G jX11_fewest 108 [some (.ref 83), some (.int v1), some (.int v2), some (.int v3), some (.int v4), none] [] h Q)))))) : Vw G jX11_fewest 15 [some (.ref 83), some (.int v1), some (.int v2), some (.int v3), some (.int v4), none] [] h Q :=
  s_iload dX11_fewest_15 rfl (s_iload_n dX11_fewest_17 rfl (s_icmp_ge 114 dX11_fewest_18 rfl (fun q2 => s_iinc 1 dX11_fewest_114 rfl (by decide) (Nat.le_of_ble_eq_true rfl) rfl (s_goto 4 dX11_fewest_117 rfl (Vw.mask [true, true, true, true, false, false] ((K.1 q2))))) (fun q2 => s_aload_n dX11_fewest_21 rfl (s_getR (v := .ref 101) dX11_fewest_22 flX11_65 rfl (hi.sh rfl rfl) (hi.rf (o := 83) (k := 37) (d := 18) rfl rfl) (s_iload_n dX11_fewest_25 rfl (s_iaload dX11_fewest_26 (hi.sh rfl rfl) (K.2 q2).1 (s_aload_n dX11_fewest_27 rfl (s_getR (v := .ref 101) dX11_fewest_28 flX11_65 rfl (hi.sh rfl rfl) (hi.rf (o := 83) (k := 37) (d := 18) rfl rfl) (s_iload dX11_fewest_31 rfl (s_iaload dX11_fewest_33 (hi.sh rfl rfl) (K.2 q2).2.1 (s_icmp_ne 40 dX11_fewest_34 rfl (fun q11 => s_aload_n dX11_fewest_40 rfl (s_getR (v := .ref 101) dX11_fewest_41 flX11_65 rfl (hi.sh rfl rfl) (hi.rf (o := 83) (k := 37) (d := 18) rfl rfl) (s_iload_n dX11_fewest_44 rfl (s_iaload dX11_fewest_45 (hi.sh rfl rfl) ((K.2 q2).2.2.1 q11).1 (s_iload_n dX11_fewest_46 rfl (s_imul dX11_fewest_47 (s_sipush 10000 dX11_fewest_48 (by decide) (s_irem dX11_fewest_51 (by decide) (s_aload_n dX11_fewest_52 rfl (s_getR (v := .ref 101) dX11_fewest_53 flX11_65 rfl (hi.sh rfl rfl) (hi.rf (o := 83) (k := 37) (d := 18) rfl rfl) (s_iload dX11_fewest_56 rfl (s_iaload dX11_fewest_58 (hi.sh rfl rfl) ((K.2 q2).2.2.1 q11).2.1 (s_iload_n dX11_fewest_59 rfl (s_imul dX11_fewest_60 (s_sipush 10000 dX11_fewest_61 (by decide) (s_irem dX11_fewest_64 (by decide) (s_callS (As := [.int (((gI h 101 (Int32.toNatClampNeg v3)) * v1) - ((gI h 101 (Int32.toNatClampNeg v3)) * v1) / (10000 : Int32) * (10000 : Int32)), .int (((gI h 101 (Int32.toNatClampNeg v4)) * v1) - ((gI h 101 (Int32.toNatClampNeg v4)) * v1) / (10000 : Int32) * (10000 : Int32))]) dX11_fewest_65 rfl lsX11_310 ⟨Nat.le_of_ble_eq_true rfl, Nat.le_of_ble_eq_true rfl⟩ rfl (Nat.le_of_ble_eq_true rfl) (((K.2 q2).2.2.1 q11).2.2)))))))))))))))))) (fun q11 => s_goto 108 dX11_fewest_37 rfl (((K.2 q2).2.2.2 q11))))))))))))))
theorem bX11_fewest_68 {G : GX} {h : mH} {Q : mO → mH → Prop} {v1 : Int32} {v2 : Int32} {v3 : Int32} {v4 : Int32} {vs0 : Int32} (hi : Iv h) (K : (¬ vs0 = 0 → (vp_in v3 10 ∧ (vp_in v4 10 ∧ ((7 < (fX11_size ((gI h 101 (Int32.toNatClampNeg v3)) - (gI h 101 (Int32.toNatClampNeg v4)))) → Vw G jX11_fewest 108 [some (.ref 83), some (.int v1), some (.int v2), some (.int v3), some (.int v4), none] [] h Q) ∧ (¬ 7 < (fX11_size ((gI h 101 (Int32.toNatClampNeg v3)) - (gI h 101 (Int32.toNatClampNeg v4)))) → ((v2 ≤ vs0 → Vw G jX11_fewest 108 [some (.ref 83), some (.int v1), some (.int v2), some (.int v3), some (.int v4), none] [] h Q) ∧ (¬ v2 ≤ vs0 → Vw G jX11_fewest 108 [some (.ref 83), some (.int v1), some (.int vs0), some (.int v3), some (.int v4), none] [] h Q))))))) ∧ (vs0 = 0 → Q (.inl (some (.int (-1)))) h)) : Vw G jX11_fewest 68 [some (.ref 83), some (.int v1), some (.int v2), some (.int v3), some (.int v4), none] [.int vs0] h Q :=
  s_istore dX11_fewest_68 (Nat.le_of_ble_eq_true rfl) rfl (s_iload dX11_fewest_70 rfl (s_if_ne 77 dX11_fewest_72 rfl (fun q2 => s_aload_n dX11_fewest_77 rfl (s_getR (v := .ref 101) dX11_fewest_78 flX11_65 rfl (hi.sh rfl rfl) (hi.rf (o := 83) (k := 37) (d := 18) rfl rfl) (s_iload_n dX11_fewest_81 rfl (s_iaload dX11_fewest_82 (hi.sh rfl rfl) (K.1 q2).1 (s_aload_n dX11_fewest_83 rfl (s_getR (v := .ref 101) dX11_fewest_84 flX11_65 rfl (hi.sh rfl rfl) (hi.rf (o := 83) (k := 37) (d := 18) rfl rfl) (s_iload dX11_fewest_87 rfl (s_iaload dX11_fewest_89 (hi.sh rfl rfl) (K.1 q2).2.1 (s_isub dX11_fewest_90 (s_callS (As := [.int ((gI h 101 (Int32.toNatClampNeg v3)) - (gI h 101 (Int32.toNatClampNeg v4)))]) dX11_fewest_91 rfl lsX11_279 ⟨Nat.le_of_ble_eq_true rfl, Nat.le_of_ble_eq_true rfl⟩ rfl (Nat.le_of_ble_eq_true rfl) (mX11_size   (s_bipush 7 dX11_fewest_94 (by decide) (s_icmp_gt 108 dX11_fewest_96 rfl (fun q14 => Vw.mask [true, true, true, true, true, false] (((K.1 q2).2.2.1 q14))) (fun q14 => s_iload dX11_fewest_99 rfl (s_iload_n dX11_fewest_101 rfl (s_icmp_ge 108 dX11_fewest_102 rfl (fun q17 => Vw.mask [true, true, true, true, true, false] ((((K.1 q2).2.2.2 q14).1 q17))) (fun q17 => s_iload dX11_fewest_105 rfl (s_istore_n dX11_fewest_107 (Nat.le_of_ble_eq_true rfl) rfl (Vw.mask [true, true, true, true, true, false] ((((K.1 q2).2.2.2 q14).2 q17))))))))))))))))))))) (fun q2 => s_iconst (-1) dX11_fewest_75 (by decide) (s_ireturn dX11_fewest_76 rfl (K.2 q2)))))
theorem bX11_fewest_108 {G : GX} {h : mH} {Q : mO → mH → Prop} {v1 : Int32} {v2 : Int32} {v3 : Int32} {v4 : Int32} (hi : Iv h) (K : Vw G jX11_fewest 15 [some (.ref 83), some (.int v1), some (.int v2), some (.int v3), some (.int (v4 + 1)), none] [] h Q) : Vw G jX11_fewest 108 [some (.ref 83), some (.int v1), some (.int v2), some (.int v3), some (.int v4), none] [] h Q :=
  s_iinc 1 dX11_fewest_108 rfl (by decide) (Nat.le_of_ble_eq_true rfl) rfl (s_goto 15 dX11_fewest_111 rfl (K))
theorem eX11_fewest {G : GX} {h : mH} {Q : mO → mH → Prop} {v1 : Int32} (hi : Iv h) (K : Vw G jX11_fewest 4 [some (.ref 83), some (.int v1), some (.int 4), some (.int 0), none, none] [] h Q) : WM G jX11_fewest [.ref 83, .int v1] h Q :=
  WM.body (ls := [some (.ref 83), some (.int v1), none, none, none, none]) rfl (by decide +kernel) rfl (Nat.le_of_ble_eq_true rfl) rfl ((bX11_fewest_0 hi  K))
theorem dX11_factor_0 : decode cX11_factor 0 = .ok (.aload_n 0, 1) := by decide +kernel
theorem dX11_factor_1 : decode cX11_factor 1 = .ok (.iconst 0, 1) := by decide +kernel
theorem dX11_factor_2 : decode cX11_factor 2 = .ok (.putfield 113, 3) := by decide +kernel
theorem dX11_factor_5 : decode cX11_factor 5 = .ok (.aload_n 0, 1) := by decide +kernel
theorem dX11_factor_6 : decode cX11_factor 6 = .ok (.iload_n 1, 1) := by decide +kernel
theorem dX11_factor_7 : decode cX11_factor 7 = .ok (.ifCond .eq 8, 3) := by decide +kernel
theorem dX11_factor_10 : decode cX11_factor 10 = .ok (.iload_n 1, 1) := by decide +kernel
theorem dX11_factor_11 : decode cX11_factor 11 = .ok (.iconst 1, 1) := by decide +kernel
theorem dX11_factor_12 : decode cX11_factor 12 = .ok (.if_icmp .ne 7, 3) := by decide +kernel
theorem dX11_factor_15 : decode cX11_factor 15 = .ok (.iconst 1, 1) := by decide +kernel
theorem dX11_factor_16 : decode cX11_factor 16 = .ok (.goto 4, 3) := by decide +kernel
theorem dX11_factor_19 : decode cX11_factor 19 = .ok (.iconst 0, 1) := by decide +kernel
theorem dX11_factor_20 : decode cX11_factor 20 = .ok (.iconst 1, 1) := by decide +kernel
theorem dX11_factor_21 : decode cX11_factor 21 = .ok (.invokevirtual 209, 3) := by decide +kernel
theorem dX11_factor_24 : decode cX11_factor 24 = .ok (.ifCond .ne 5, 3) := by decide +kernel
theorem dX11_factor_27 : decode cX11_factor 27 = .ok (.iconst 0, 1) := by decide +kernel
theorem dX11_factor_28 : decode cX11_factor 28 = .ok (.ireturn, 1) := by decide +kernel
theorem dX11_factor_29 : decode cX11_factor 29 = .ok (.iconst (-1), 1) := by decide +kernel
theorem dX11_factor_30 : decode cX11_factor 30 = .ok (.istore_n 2, 1) := by decide +kernel
theorem dX11_factor_31 : decode cX11_factor 31 = .ok (.iconst (-1), 1) := by decide +kernel
theorem dX11_factor_32 : decode cX11_factor 32 = .ok (.istore_n 3, 1) := by decide +kernel
theorem dX11_factor_33 : decode cX11_factor 33 = .ok (.iconst 1, 1) := by decide +kernel
theorem dX11_factor_34 : decode cX11_factor 34 = .ok (.istore 4, 2) := by decide +kernel
theorem dX11_factor_36 : decode cX11_factor 36 = .ok (.iload 4, 2) := by decide +kernel
theorem dX11_factor_38 : decode cX11_factor 38 = .ok (.sipush 999, 3) := by decide +kernel
theorem dX11_factor_41 : decode cX11_factor 41 = .ok (.if_icmp .gt 32, 3) := by decide +kernel
theorem dX11_factor_44 : decode cX11_factor 44 = .ok (.aload_n 0, 1) := by decide +kernel
theorem dX11_factor_45 : decode cX11_factor 45 = .ok (.iload 4, 2) := by decide +kernel
theorem dX11_factor_47 : decode cX11_factor 47 = .ok (.invokevirtual 313, 3) := by decide +kernel
theorem dX11_factor_50 : decode cX11_factor 50 = .ok (.istore 5, 2) := by decide +kernel
theorem dX11_factor_52 : decode cX11_factor 52 = .ok (.iload 5, 2) := by decide +kernel
theorem dX11_factor_54 : decode cX11_factor 54 = .ok (.iload_n 3, 1) := by decide +kernel
theorem dX11_factor_55 : decode cX11_factor 55 = .ok (.if_icmp .gt 6, 3) := by decide +kernel
theorem dX11_factor_58 : decode cX11_factor 58 = .ok (.goto 9, 3) := by decide +kernel
theorem dX11_factor_61 : decode cX11_factor 61 = .ok (.iload 4, 2) := by decide +kernel
theorem dX11_factor_63 : decode cX11_factor 63 = .ok (.istore_n 2, 1) := by decide +kernel
theorem dX11_factor_64 : decode cX11_factor 64 = .ok (.iload 5, 2) := by decide +kernel
theorem dX11_factor_66 : decode cX11_factor 66 = .ok (.istore_n 3, 1) := by decide +kernel
theorem dX11_factor_67 : decode cX11_factor 67 = .ok (.iinc 4 1, 3) := by decide +kernel
theorem dX11_factor_70 : decode cX11_factor 70 = .ok (.goto (-34), 3) := by decide +kernel
theorem dX11_factor_73 : decode cX11_factor 73 = .ok (.iload_n 1, 1) := by decide +kernel
theorem dX11_factor_74 : decode cX11_factor 74 = .ok (.ifCond .ne 7, 3) := by decide +kernel
theorem dX11_factor_77 : decode cX11_factor 77 = .ok (.iload_n 2, 1) := by decide +kernel
theorem dX11_factor_78 : decode cX11_factor 78 = .ok (.goto 4, 3) := by decide +kernel
theorem dX11_factor_81 : decode cX11_factor 81 = .ok (.iload_n 3, 1) := by decide +kernel
theorem dX11_factor_82 : decode cX11_factor 82 = .ok (.ireturn, 1) := by decide +kernel
theorem bX11_factor_0 {G : GX} {h : mH} {Q : mO → mH → Prop} {v1 : Int32} (hi : Iv h) (K : (v1 = 0 → WM G jX11_right [.ref 83, .int 1, .int 1] (pI h 83 0 0) (Aft G jX11_factor 21 [some (.ref 83), some (.int v1), none, none, none, none] [] Q)) ∧ (¬ v1 = 0 → ((¬ v1 = 1 → WM G jX11_right [.ref 83, .int 0, .int 1] (pI h 83 0 0) (Aft G jX11_factor 21 [some (.ref 83), some (.int v1), none, none, none, none] [] Q)) ∧ (v1 = 1 → WM G jX11_right [.ref 83, .int 1, .int 1] (pI h 83 0 0) (Aft G jX11_factor 21 [some (.ref 83), some (.int v1), none, none, none, none] [] Q))))) : Vw G jX11_factor 0 [some (.ref 83), some (.int v1), none, none, none, none] [] h Q :=
  s_aload_n dX11_factor_0 rfl (s_iconst 0 dX11_factor_1 (by decide) (s_putI dX11_factor_2 flX11_113 ff10_0 rfl (hi.sh rfl rfl) (s_aload_n dX11_factor_5 rfl (s_iload_n dX11_factor_6 rfl (s_if_eq 15 dX11_factor_7 rfl (fun q5 => s_iconst 1 dX11_factor_15 (by decide) (s_goto 20 dX11_factor_16 rfl (s_iconst 1 dX11_factor_20 (by decide) (s_callV (As := [.int 1, .int 1]) dX11_factor_21 rfl lvX11_209 ⟨Nat.le_of_ble_eq_true rfl, Nat.le_of_ble_eq_true rfl⟩ (hi.sh rfl rfl) ⟨_, _, by decide, rfl⟩ rfl (Nat.le_of_ble_eq_true rfl) ((K.1 q5)))))) (fun q5 => s_iload_n dX11_factor_10 rfl (s_iconst 1 dX11_factor_11 (by decide) (s_icmp_ne 19 dX11_factor_12 rfl (fun q8 => s_iconst 0 dX11_factor_19 (by decide) (s_iconst 1 dX11_factor_20 (by decide) (s_callV (As := [.int 0, .int 1]) dX11_factor_21 rfl lvX11_209 ⟨Nat.le_of_ble_eq_true rfl, Nat.le_of_ble_eq_true rfl⟩ (hi.sh rfl rfl) ⟨_, _, by decide, rfl⟩ rfl (Nat.le_of_ble_eq_true rfl) (((K.2 q5).1 q8))))) (fun q8 => s_iconst 1 dX11_factor_15 (by decide) (s_goto 20 dX11_factor_16 rfl (s_iconst 1 dX11_factor_20 (by decide) (s_callV (As := [.int 1, .int 1]) dX11_factor_21 rfl lvX11_209 ⟨Nat.le_of_ble_eq_true rfl, Nat.le_of_ble_eq_true rfl⟩ (hi.sh rfl rfl) ⟨_, _, by decide, rfl⟩ rfl (Nat.le_of_ble_eq_true rfl) (((K.2 q5).2 q8))))))))))))))
theorem bX11_factor_24 {G : GX} {h : mH} {Q : mO → mH → Prop} {v1 : Int32} {vs0 : Int32} (hi : Iv h) (K : (¬ vs0 = 0 → Vw G jX11_factor 36 [some (.ref 83), some (.int v1), some (.int (-1)), some (.int (-1)), some (.int 1), none] [] h Q) ∧ (vs0 = 0 → Q (.inl (some (.int 0))) h)) : Vw G jX11_factor 24 [some (.ref 83), some (.int v1), none, none, none, none] [.int vs0] h Q :=
  s_if_ne 29 dX11_factor_24 rfl (fun q0 => s_iconst (-1) dX11_factor_29 (by decide) (s_istore_n dX11_factor_30 (Nat.le_of_ble_eq_true rfl) rfl (s_iconst (-1) dX11_factor_31 (by decide) (s_istore_n dX11_factor_32 (Nat.le_of_ble_eq_true rfl) rfl (s_iconst 1 dX11_factor_33 (by decide) (s_istore dX11_factor_34 (Nat.le_of_ble_eq_true rfl) rfl ((K.1 q0)))))))) (fun q0 => s_iconst 0 dX11_factor_27 (by decide) (s_ireturn dX11_factor_28 rfl (K.2 q0)))
theorem bX11_factor_36 {G : GX} {h : mH} {Q : mO → mH → Prop} {v1 : Int32} {v2 : Int32} {v3 : Int32} {v4 : Int32} (hi : Iv h) (K : (999 < v4 → ((¬ v1 = 0 → Q (.inl (some (.int v3))) h) ∧ (v1 = 0 → Q (.inl (some (.int v2))) h))) ∧ (¬ 999 < v4 → WM G jX11_fewest [.ref 83, .int v4] h (Aft G jX11_factor 47 [some (.ref 83), some (.int v1), some (.int v2), some (.int v3), some (.int v4), none] [] Q))) : Vw G jX11_factor 36 [some (.ref 83), some (.int v1), some (.int v2), some (.int v3), some (.int v4), none] [] h Q :=
  s_iload dX11_factor_36 rfl (s_sipush 999 dX11_factor_38 (by decide) (s_icmp_gt 73 dX11_factor_41 rfl (fun q2 => s_iload_n dX11_factor_73 rfl (s_if_ne 81 dX11_factor_74 rfl (fun q4 => s_iload_n dX11_factor_81 rfl (s_ireturn dX11_factor_82 rfl ((K.1 q2).1 q4))) (fun q4 => s_iload_n dX11_factor_77 rfl (s_goto 82 dX11_factor_78 rfl (s_ireturn dX11_factor_82 rfl ((K.1 q2).2 q4)))))) (fun q2 => s_aload_n dX11_factor_44 rfl (s_iload dX11_factor_45 rfl (s_callV (As := [.int v4]) dX11_factor_47 rfl lvX11_313 ⟨Nat.le_of_ble_eq_true rfl, Nat.le_of_ble_eq_true rfl⟩ (hi.sh rfl rfl) ⟨_, _, by decide, rfl⟩ rfl (Nat.le_of_ble_eq_true rfl) ((K.2 q2)))))))
theorem bX11_factor_50 {G : GX} {h : mH} {Q : mO → mH → Prop} {v1 : Int32} {v2 : Int32} {v3 : Int32} {v4 : Int32} {vs0 : Int32} (hi : Iv h) (K : (v3 < vs0 → Vw G jX11_factor 67 [some (.ref 83), some (.int v1), some (.int v4), some (.int vs0), some (.int v4), none] [] h Q) ∧ (¬ v3 < vs0 → Vw G jX11_factor 67 [some (.ref 83), some (.int v1), some (.int v2), some (.int v3), some (.int v4), none] [] h Q)) : Vw G jX11_factor 50 [some (.ref 83), some (.int v1), some (.int v2), some (.int v3), some (.int v4), none] [.int vs0] h Q :=
  s_istore dX11_factor_50 (Nat.le_of_ble_eq_true rfl) rfl (s_iload dX11_factor_52 rfl (s_iload_n dX11_factor_54 rfl (s_icmp_gt 61 dX11_factor_55 rfl (fun q3 => s_iload dX11_factor_61 rfl (s_istore_n dX11_factor_63 (Nat.le_of_ble_eq_true rfl) rfl (s_iload dX11_factor_64 rfl (s_istore_n dX11_factor_66 (Nat.le_of_ble_eq_true rfl) rfl (Vw.mask [true, true, true, true, true, false] ((K.1 q3))))))) (fun q3 => s_goto 67 dX11_factor_58 rfl (Vw.mask [true, true, true, true, true, false] ((K.2 q3)))))))
theorem bX11_factor_67 {G : GX} {h : mH} {Q : mO → mH → Prop} {v1 : Int32} {v2 : Int32} {v3 : Int32} {v4 : Int32} (hi : Iv h) (K : Vw G jX11_factor 36 [some (.ref 83), some (.int v1), some (.int v2), some (.int v3), some (.int (v4 + 1)), none] [] h Q) : Vw G jX11_factor 67 [some (.ref 83), some (.int v1), some (.int v2), some (.int v3), some (.int v4), none] [] h Q :=
  s_iinc 1 dX11_factor_67 rfl (by decide) (Nat.le_of_ble_eq_true rfl) rfl (s_goto 36 dX11_factor_70 rfl (K))
theorem eX11_factor {G : GX} {h : mH} {Q : mO → mH → Prop} {v1 : Int32} (hi : Iv h) (K : (v1 = 0 → WM G jX11_right [.ref 83, .int 1, .int 1] (pI h 83 0 0) (Aft G jX11_factor 21 [some (.ref 83), some (.int v1), none, none, none, none] [] Q)) ∧ (¬ v1 = 0 → ((¬ v1 = 1 → WM G jX11_right [.ref 83, .int 0, .int 1] (pI h 83 0 0) (Aft G jX11_factor 21 [some (.ref 83), some (.int v1), none, none, none, none] [] Q)) ∧ (v1 = 1 → WM G jX11_right [.ref 83, .int 1, .int 1] (pI h 83 0 0) (Aft G jX11_factor 21 [some (.ref 83), some (.int v1), none, none, none, none] [] Q))))) : WM G jX11_factor [.ref 83, .int v1] h Q :=
  WM.body (ls := [some (.ref 83), some (.int v1), none, none, none, none]) rfl (by decide +kernel) rfl (Nat.le_of_ble_eq_true rfl) rfl ((bX11_factor_0 hi  K))
theorem dX11_laid_0 : decode cX11_laid 0 = .ok (.aload_n 0, 1) := by decide +kernel
theorem dX11_laid_1 : decode cX11_laid 1 = .ok (.iconst 0, 1) := by decide +kernel
theorem dX11_laid_2 : decode cX11_laid 2 = .ok (.putfield 113, 3) := by decide +kernel
theorem dX11_laid_5 : decode cX11_laid 5 = .ok (.aload_n 0, 1) := by decide +kernel
theorem dX11_laid_6 : decode cX11_laid 6 = .ok (.iload_n 1, 1) := by decide +kernel
theorem dX11_laid_7 : decode cX11_laid 7 = .ok (.invokevirtual 282, 3) := by decide +kernel
theorem dX11_laid_10 : decode cX11_laid 10 = .ok (.ifCond .eq 37, 3) := by decide +kernel
theorem dX11_laid_13 : decode cX11_laid 13 = .ok (.aload_n 0, 1) := by decide +kernel
theorem dX11_laid_14 : decode cX11_laid 14 = .ok (.iload_n 2, 1) := by decide +kernel
theorem dX11_laid_15 : decode cX11_laid 15 = .ok (.invokevirtual 282, 3) := by decide +kernel
theorem dX11_laid_18 : decode cX11_laid 18 = .ok (.ifCond .eq 29, 3) := by decide +kernel
theorem dX11_laid_21 : decode cX11_laid 21 = .ok (.aload_n 0, 1) := by decide +kernel
theorem dX11_laid_22 : decode cX11_laid 22 = .ok (.iload 5, 2) := by decide +kernel
theorem dX11_laid_24 : decode cX11_laid 24 = .ok (.iconst 0, 1) := by decide +kernel
theorem dX11_laid_25 : decode cX11_laid 25 = .ok (.iconst 2, 1) := by decide +kernel
theorem dX11_laid_26 : decode cX11_laid 26 = .ok (.invokestatic 238, 3) := by decide +kernel
theorem dX11_laid_29 : decode cX11_laid 29 = .ok (.iconst 1, 1) := by decide +kernel
theorem dX11_laid_30 : decode cX11_laid 30 = .ok (.invokevirtual 209, 3) := by decide +kernel
theorem dX11_laid_33 : decode cX11_laid 33 = .ok (.ifCond .eq 14, 3) := by decide +kernel
theorem dX11_laid_36 : decode cX11_laid 36 = .ok (.aload_n 0, 1) := by decide +kernel
theorem dX11_laid_37 : decode cX11_laid 37 = .ok (.iload_n 3, 1) := by decide +kernel
theorem dX11_laid_38 : decode cX11_laid 38 = .ok (.iload 4, 2) := by decide +kernel
theorem dX11_laid_40 : decode cX11_laid 40 = .ok (.iconst 2, 1) := by decide +kernel
theorem dX11_laid_41 : decode cX11_laid 41 = .ok (.invokevirtual 266, 3) := by decide +kernel
theorem dX11_laid_44 : decode cX11_laid 44 = .ok (.ifCond .ne 5, 3) := by decide +kernel
theorem dX11_laid_47 : decode cX11_laid 47 = .ok (.iconst 0, 1) := by decide +kernel
theorem dX11_laid_48 : decode cX11_laid 48 = .ok (.ireturn, 1) := by decide +kernel
theorem dX11_laid_49 : decode cX11_laid 49 = .ok (.aload_n 0, 1) := by decide +kernel
theorem dX11_laid_50 : decode cX11_laid 50 = .ok (.invokevirtual 269, 3) := by decide +kernel
theorem dX11_laid_53 : decode cX11_laid 53 = .ok (.iload_n 3, 1) := by decide +kernel
theorem dX11_laid_54 : decode cX11_laid 54 = .ok (.istore 6, 2) := by decide +kernel
theorem dX11_laid_56 : decode cX11_laid 56 = .ok (.iload 6, 2) := by decide +kernel
theorem dX11_laid_58 : decode cX11_laid 58 = .ok (.iload 4, 2) := by decide +kernel
theorem dX11_laid_60 : decode cX11_laid 60 = .ok (.if_icmp .gt 93, 3) := by decide +kernel
theorem dX11_laid_63 : decode cX11_laid 63 = .ok (.aload_n 0, 1) := by decide +kernel
theorem dX11_laid_64 : decode cX11_laid 64 = .ok (.getfield 50, 3) := by decide +kernel
theorem dX11_laid_67 : decode cX11_laid 67 = .ok (.aload_n 0, 1) := by decide +kernel
theorem dX11_laid_68 : decode cX11_laid 68 = .ok (.aload_n 0, 1) := by decide +kernel
theorem dX11_laid_69 : decode cX11_laid 69 = .ok (.getfield 53, 3) := by decide +kernel
theorem dX11_laid_72 : decode cX11_laid 72 = .ok (.bipush 12, 2) := by decide +kernel
theorem dX11_laid_74 : decode cX11_laid 74 = .ok (.iload_n 1, 1) := by decide +kernel
theorem dX11_laid_75 : decode cX11_laid 75 = .ok (.imul, 1) := by decide +kernel
theorem dX11_laid_76 : decode cX11_laid 76 = .ok (.iload 6, 2) := by decide +kernel
theorem dX11_laid_78 : decode cX11_laid 78 = .ok (.iconst 0, 1) := by decide +kernel
theorem dX11_laid_79 : decode cX11_laid 79 = .ok (.invokevirtual 256, 3) := by decide +kernel
theorem dX11_laid_82 : decode cX11_laid 82 = .ok (.aload_n 0, 1) := by decide +kernel
theorem dX11_laid_83 : decode cX11_laid 83 = .ok (.aload_n 0, 1) := by decide +kernel
theorem dX11_laid_84 : decode cX11_laid 84 = .ok (.getfield 53, 3) := by decide +kernel
theorem dX11_laid_87 : decode cX11_laid 87 = .ok (.bipush 12, 2) := by decide +kernel
theorem dX11_laid_89 : decode cX11_laid 89 = .ok (.iload_n 1, 1) := by decide +kernel
theorem dX11_laid_90 : decode cX11_laid 90 = .ok (.imul, 1) := by decide +kernel
theorem dX11_laid_91 : decode cX11_laid 91 = .ok (.iload 6, 2) := by decide +kernel
theorem dX11_laid_93 : decode cX11_laid 93 = .ok (.iconst 1, 1) := by decide +kernel
theorem dX11_laid_94 : decode cX11_laid 94 = .ok (.invokevirtual 256, 3) := by decide +kernel
theorem dX11_laid_97 : decode cX11_laid 97 = .ok (.invokestatic 272, 3) := by decide +kernel
theorem dX11_laid_100 : decode cX11_laid 100 = .ok (.dup2, 1) := by decide +kernel
theorem dX11_laid_101 : decode cX11_laid 101 = .ok (.iaload, 1) := by decide +kernel
theorem dX11_laid_102 : decode cX11_laid 102 = .ok (.iconst 1, 1) := by decide +kernel
theorem dX11_laid_103 : decode cX11_laid 103 = .ok (.ior, 1) := by decide +kernel
theorem dX11_laid_104 : decode cX11_laid 104 = .ok (.iastore, 1) := by decide +kernel
theorem dX11_laid_105 : decode cX11_laid 105 = .ok (.aload_n 0, 1) := by decide +kernel
theorem dX11_laid_106 : decode cX11_laid 106 = .ok (.getfield 50, 3) := by decide +kernel
theorem dX11_laid_109 : decode cX11_laid 109 = .ok (.aload_n 0, 1) := by decide +kernel
theorem dX11_laid_110 : decode cX11_laid 110 = .ok (.aload_n 0, 1) := by decide +kernel
theorem dX11_laid_111 : decode cX11_laid 111 = .ok (.getfield 53, 3) := by decide +kernel
theorem dX11_laid_114 : decode cX11_laid 114 = .ok (.bipush 12, 2) := by decide +kernel
theorem dX11_laid_116 : decode cX11_laid 116 = .ok (.iload_n 2, 1) := by decide +kernel
theorem dX11_laid_117 : decode cX11_laid 117 = .ok (.imul, 1) := by decide +kernel
theorem dX11_laid_118 : decode cX11_laid 118 = .ok (.iload 6, 2) := by decide +kernel
theorem dX11_laid_120 : decode cX11_laid 120 = .ok (.iconst 0, 1) := by decide +kernel
theorem dX11_laid_121 : decode cX11_laid 121 = .ok (.invokevirtual 256, 3) := by decide +kernel
theorem dX11_laid_124 : decode cX11_laid 124 = .ok (.aload_n 0, 1) := by decide +kernel
theorem dX11_laid_125 : decode cX11_laid 125 = .ok (.aload_n 0, 1) := by decide +kernel
theorem dX11_laid_126 : decode cX11_laid 126 = .ok (.getfield 53, 3) := by decide +kernel
theorem dX11_laid_129 : decode cX11_laid 129 = .ok (.bipush 12, 2) := by decide +kernel
theorem dX11_laid_131 : decode cX11_laid 131 = .ok (.iload_n 2, 1) := by decide +kernel
theorem dX11_laid_132 : decode cX11_laid 132 = .ok (.imul, 1) := by decide +kernel
theorem dX11_laid_133 : decode cX11_laid 133 = .ok (.iload 6, 2) := by decide +kernel
theorem dX11_laid_135 : decode cX11_laid 135 = .ok (.iconst 1, 1) := by decide +kernel
theorem dX11_laid_136 : decode cX11_laid 136 = .ok (.invokevirtual 256, 3) := by decide +kernel
theorem dX11_laid_139 : decode cX11_laid 139 = .ok (.invokestatic 272, 3) := by decide +kernel
theorem dX11_laid_142 : decode cX11_laid 142 = .ok (.dup2, 1) := by decide +kernel
theorem dX11_laid_143 : decode cX11_laid 143 = .ok (.iaload, 1) := by decide +kernel
theorem dX11_laid_144 : decode cX11_laid 144 = .ok (.iconst 2, 1) := by decide +kernel
theorem dX11_laid_145 : decode cX11_laid 145 = .ok (.ior, 1) := by decide +kernel
theorem dX11_laid_146 : decode cX11_laid 146 = .ok (.iastore, 1) := by decide +kernel
theorem dX11_laid_147 : decode cX11_laid 147 = .ok (.iinc 6 1, 3) := by decide +kernel
theorem dX11_laid_150 : decode cX11_laid 150 = .ok (.goto (-94), 3) := by decide +kernel
theorem dX11_laid_153 : decode cX11_laid 153 = .ok (.iconst 0, 1) := by decide +kernel
theorem dX11_laid_154 : decode cX11_laid 154 = .ok (.istore 6, 2) := by decide +kernel
theorem dX11_laid_156 : decode cX11_laid 156 = .ok (.iconst 0, 1) := by decide +kernel
theorem dX11_laid_157 : decode cX11_laid 157 = .ok (.istore 7, 2) := by decide +kernel
theorem dX11_laid_159 : decode cX11_laid 159 = .ok (.iload 7, 2) := by decide +kernel
theorem dX11_laid_161 : decode cX11_laid 161 = .ok (.sipush 729, 3) := by decide +kernel
theorem dX11_laid_164 : decode cX11_laid 164 = .ok (.if_icmp .ge 40, 3) := by decide +kernel
theorem dX11_laid_167 : decode cX11_laid 167 = .ok (.iload 6, 2) := by decide +kernel
theorem dX11_laid_169 : decode cX11_laid 169 = .ok (.aload_n 0, 1) := by decide +kernel
theorem dX11_laid_170 : decode cX11_laid 170 = .ok (.getfield 50, 3) := by decide +kernel
theorem dX11_laid_173 : decode cX11_laid 173 = .ok (.iload 7, 2) := by decide +kernel
theorem dX11_laid_175 : decode cX11_laid 175 = .ok (.iaload, 1) := by decide +kernel
theorem dX11_laid_176 : decode cX11_laid 176 = .ok (.iload 5, 2) := by decide +kernel
theorem dX11_laid_178 : decode cX11_laid 178 = .ok (.ifCond .ne 7, 3) := by decide +kernel
theorem dX11_laid_181 : decode cX11_laid 181 = .ok (.iconst 3, 1) := by decide +kernel
theorem dX11_laid_182 : decode cX11_laid 182 = .ok (.goto 5, 3) := by decide +kernel
theorem dX11_laid_185 : decode cX11_laid 185 = .ok (.iload 5, 2) := by decide +kernel
theorem dX11_laid_187 : decode cX11_laid 187 = .ok (.if_icmp .ne 7, 3) := by decide +kernel
theorem dX11_laid_190 : decode cX11_laid 190 = .ok (.iconst 1, 1) := by decide +kernel
theorem dX11_laid_191 : decode cX11_laid 191 = .ok (.goto 4, 3) := by decide +kernel
theorem dX11_laid_194 : decode cX11_laid 194 = .ok (.iconst 0, 1) := by decide +kernel
theorem dX11_laid_195 : decode cX11_laid 195 = .ok (.iadd, 1) := by decide +kernel
theorem dX11_laid_196 : decode cX11_laid 196 = .ok (.istore 6, 2) := by decide +kernel
theorem dX11_laid_198 : decode cX11_laid 198 = .ok (.iinc 7 1, 3) := by decide +kernel
theorem dX11_laid_201 : decode cX11_laid 201 = .ok (.goto (-42), 3) := by decide +kernel
theorem dX11_laid_204 : decode cX11_laid 204 = .ok (.iload 6, 2) := by decide +kernel
theorem dX11_laid_206 : decode cX11_laid 206 = .ok (.ireturn, 1) := by decide +kernel
theorem bX11_laid_0 {G : GX} {h : mH} {Q : mO → mH → Prop} {v1 : Int32} {v2 : Int32} {v3 : Int32} {v4 : Int32} {v5 : Int32} (hi : Iv h) (K : WM G jX11_isPortrait [.ref 83, .int v1] (pI h 83 0 0) (Aft G jX11_laid 7 [some (.ref 83), some (.int v1), some (.int v2), some (.int v3), some (.int v4), some (.int v5), none, none] [] Q)) : Vw G jX11_laid 0 [some (.ref 83), some (.int v1), some (.int v2), some (.int v3), some (.int v4), some (.int v5), none, none] [] h Q :=
  s_aload_n dX11_laid_0 rfl (s_iconst 0 dX11_laid_1 (by decide) (s_putI dX11_laid_2 flX11_113 ff10_0 rfl (hi.sh rfl rfl) (s_aload_n dX11_laid_5 rfl (s_iload_n dX11_laid_6 rfl (s_callV (As := [.int v1]) dX11_laid_7 rfl lvX11_282 ⟨Nat.le_of_ble_eq_true rfl, Nat.le_of_ble_eq_true rfl⟩ (hi.sh rfl rfl) ⟨_, _, by decide, rfl⟩ rfl (Nat.le_of_ble_eq_true rfl) (K))))))
theorem bX11_laid_10 {G : GX} {h : mH} {Q : mO → mH → Prop} {v1 : Int32} {v2 : Int32} {v3 : Int32} {v4 : Int32} {v5 : Int32} {vs0 : Int32} (hi : Iv h) (K : (vs0 = 0 → Q (.inl (some (.int 0))) h) ∧ (¬ vs0 = 0 → WM G jX11_isPortrait [.ref 83, .int v2] h (Aft G jX11_laid 15 [some (.ref 83), some (.int v1), some (.int v2), some (.int v3), some (.int v4), some (.int v5), none, none] [] Q))) : Vw G jX11_laid 10 [some (.ref 83), some (.int v1), some (.int v2), some (.int v3), some (.int v4), some (.int v5), none, none] [.int vs0] h Q :=
  s_if_eq 47 dX11_laid_10 rfl (fun q0 => s_iconst 0 dX11_laid_47 (by decide) (s_ireturn dX11_laid_48 rfl (K.1 q0))) (fun q0 => s_aload_n dX11_laid_13 rfl (s_iload_n dX11_laid_14 rfl (s_callV (As := [.int v2]) dX11_laid_15 rfl lvX11_282 ⟨Nat.le_of_ble_eq_true rfl, Nat.le_of_ble_eq_true rfl⟩ (hi.sh rfl rfl) ⟨_, _, by decide, rfl⟩ rfl (Nat.le_of_ble_eq_true rfl) ((K.2 q0)))))
theorem bX11_laid_18 {G : GX} {h : mH} {Q : mO → mH → Prop} {v1 : Int32} {v2 : Int32} {v3 : Int32} {v4 : Int32} {v5 : Int32} {vs0 : Int32} (hi : Iv h) (K : (vs0 = 0 → Q (.inl (some (.int 0))) h) ∧ (¬ vs0 = 0 → WM G jX11_right [.ref 83, .int (fX11_within v5 0 2), .int 1] h (Aft G jX11_laid 30 [some (.ref 83), some (.int v1), some (.int v2), some (.int v3), some (.int v4), some (.int v5), none, none] [] Q))) : Vw G jX11_laid 18 [some (.ref 83), some (.int v1), some (.int v2), some (.int v3), some (.int v4), some (.int v5), none, none] [.int vs0] h Q :=
  s_if_eq 47 dX11_laid_18 rfl (fun q0 => s_iconst 0 dX11_laid_47 (by decide) (s_ireturn dX11_laid_48 rfl (K.1 q0))) (fun q0 => s_aload_n dX11_laid_21 rfl (s_iload dX11_laid_22 rfl (s_iconst 0 dX11_laid_24 (by decide) (s_iconst 2 dX11_laid_25 (by decide) (s_callS (As := [.int v5, .int 0, .int 2]) dX11_laid_26 rfl lsX11_238 ⟨Nat.le_of_ble_eq_true rfl, Nat.le_of_ble_eq_true rfl⟩ rfl (Nat.le_of_ble_eq_true rfl) (mX11_within   (s_iconst 1 dX11_laid_29 (by decide) (s_callV (As := [.int (fX11_within v5 0 2), .int 1]) dX11_laid_30 rfl lvX11_209 ⟨Nat.le_of_ble_eq_true rfl, Nat.le_of_ble_eq_true rfl⟩ (hi.sh rfl rfl) ⟨_, _, by decide, rfl⟩ rfl (Nat.le_of_ble_eq_true rfl) ((K.2 q0))))))))))
theorem bX11_laid_33 {G : GX} {h : mH} {Q : mO → mH → Prop} {v1 : Int32} {v2 : Int32} {v3 : Int32} {v4 : Int32} {v5 : Int32} {vs0 : Int32} (hi : Iv h) (K : (vs0 = 0 → Q (.inl (some (.int 0))) h) ∧ (¬ vs0 = 0 → WM G jX11_isSpan [.ref 83, .int v3, .int v4, .int 2] h (Aft G jX11_laid 41 [some (.ref 83), some (.int v1), some (.int v2), some (.int v3), some (.int v4), some (.int v5), none, none] [] Q))) : Vw G jX11_laid 33 [some (.ref 83), some (.int v1), some (.int v2), some (.int v3), some (.int v4), some (.int v5), none, none] [.int vs0] h Q :=
  s_if_eq 47 dX11_laid_33 rfl (fun q0 => s_iconst 0 dX11_laid_47 (by decide) (s_ireturn dX11_laid_48 rfl (K.1 q0))) (fun q0 => s_aload_n dX11_laid_36 rfl (s_iload_n dX11_laid_37 rfl (s_iload dX11_laid_38 rfl (s_iconst 2 dX11_laid_40 (by decide) (s_callV (As := [.int v3, .int v4, .int 2]) dX11_laid_41 rfl lvX11_266 ⟨Nat.le_of_ble_eq_true rfl, Nat.le_of_ble_eq_true rfl⟩ (hi.sh rfl rfl) ⟨_, _, by decide, rfl⟩ rfl (Nat.le_of_ble_eq_true rfl) ((K.2 q0)))))))
theorem bX11_laid_44 {G : GX} {h : mH} {Q : mO → mH → Prop} {v1 : Int32} {v2 : Int32} {v3 : Int32} {v4 : Int32} {v5 : Int32} {vs0 : Int32} (hi : Iv h) (K : (¬ vs0 = 0 → WM G jX11_clears [.ref 83] h (Aft G jX11_laid 50 [some (.ref 83), some (.int v1), some (.int v2), some (.int v3), some (.int v4), some (.int v5), none, none] [] Q)) ∧ (vs0 = 0 → Q (.inl (some (.int 0))) h)) : Vw G jX11_laid 44 [some (.ref 83), some (.int v1), some (.int v2), some (.int v3), some (.int v4), some (.int v5), none, none] [.int vs0] h Q :=
  s_if_ne 49 dX11_laid_44 rfl (fun q0 => s_aload_n dX11_laid_49 rfl (s_callV (As := []) dX11_laid_50 rfl lvX11_269 ⟨Nat.le_of_ble_eq_true rfl, Nat.le_of_ble_eq_true rfl⟩ (hi.sh rfl rfl) ⟨_, _, by decide, rfl⟩ rfl (Nat.le_of_ble_eq_true rfl) ((K.1 q0)))) (fun q0 => s_iconst 0 dX11_laid_47 (by decide) (s_ireturn dX11_laid_48 rfl (K.2 q0)))
theorem bX11_laid_53 {G : GX} {h : mH} {Q : mO → mH → Prop} {v1 : Int32} {v2 : Int32} {v3 : Int32} {v4 : Int32} {v5 : Int32} (hi : Iv h) (K : Vw G jX11_laid 56 [some (.ref 83), some (.int v1), some (.int v2), none, some (.int v4), some (.int v5), some (.int v3), none] [] h Q) : Vw G jX11_laid 53 [some (.ref 83), some (.int v1), some (.int v2), some (.int v3), some (.int v4), some (.int v5), none, none] [] h Q :=
  s_iload_n dX11_laid_53 rfl (s_istore dX11_laid_54 (Nat.le_of_ble_eq_true rfl) rfl (Vw.mask [true, true, true, false, true, true, true, false] (K)))
theorem bX11_laid_56 {G : GX} {h : mH} {Q : mO → mH → Prop} {v1 : Int32} {v2 : Int32} {v4 : Int32} {v5 : Int32} {v6 : Int32} (hi : Iv h) (K : (v4 < v6 → Vw G jX11_laid 159 [some (.ref 83), none, none, none, none, some (.int v5), some (.int 0), some (.int 0)] [] h Q) ∧ (¬ v4 < v6 → WM G jX11_penOf [.ref 83, .ref 97, .int (12 * v1), .int v6, .int 0] h (Aft G jX11_laid 79 [some (.ref 83), some (.int v1), some (.int v2), none, some (.int v4), some (.int v5), some (.int v6), none] [.ref 96] Q))) : Vw G jX11_laid 56 [some (.ref 83), some (.int v1), some (.int v2), none, some (.int v4), some (.int v5), some (.int v6), none] [] h Q :=
  s_iload dX11_laid_56 rfl (s_iload dX11_laid_58 rfl (s_icmp_gt 153 dX11_laid_60 rfl (fun q2 => s_iconst 0 dX11_laid_153 (by decide) (s_istore dX11_laid_154 (Nat.le_of_ble_eq_true rfl) rfl (s_iconst 0 dX11_laid_156 (by decide) (s_istore dX11_laid_157 (Nat.le_of_ble_eq_true rfl) rfl (Vw.mask [true, false, false, false, false, true, true, true] ((K.1 q2))))))) (fun q2 => s_aload_n dX11_laid_63 rfl (s_getR (v := .ref 96) dX11_laid_64 flX11_50 rfl (hi.sh rfl rfl) (hi.rf (o := 83) (k := 29) (d := 13) rfl rfl) (s_aload_n dX11_laid_67 rfl (s_aload_n dX11_laid_68 rfl (s_getR (v := .ref 97) dX11_laid_69 flX11_53 rfl (hi.sh rfl rfl) (hi.rf (o := 83) (k := 31) (d := 14) rfl rfl) (s_bipush 12 dX11_laid_72 (by decide) (s_iload_n dX11_laid_74 rfl (s_imul dX11_laid_75 (s_iload dX11_laid_76 rfl (s_iconst 0 dX11_laid_78 (by decide) (s_callV (As := [.ref 97, .int (12 * v1), .int v6, .int 0]) dX11_laid_79 rfl lvX11_256 ⟨Nat.le_of_ble_eq_true rfl, Nat.le_of_ble_eq_true rfl⟩ (hi.sh rfl rfl) ⟨_, _, by decide, rfl⟩ rfl (Nat.le_of_ble_eq_true rfl) ((K.2 q2)))))))))))))))
theorem bX11_laid_82 {G : GX} {h : mH} {Q : mO → mH → Prop} {v1 : Int32} {v2 : Int32} {v4 : Int32} {v5 : Int32} {v6 : Int32} {vs0 : Int32} (hi : Iv h) (K : WM G jX11_penOf [.ref 83, .ref 97, .int (12 * v1), .int v6, .int 1] h (Aft G jX11_laid 94 [some (.ref 83), some (.int v1), some (.int v2), none, some (.int v4), some (.int v5), some (.int v6), none] [.int vs0, .ref 96] Q)) : Vw G jX11_laid 82 [some (.ref 83), some (.int v1), some (.int v2), none, some (.int v4), some (.int v5), some (.int v6), none] [.int vs0, .ref 96] h Q :=
  s_aload_n dX11_laid_82 rfl (s_aload_n dX11_laid_83 rfl (s_getR (v := .ref 97) dX11_laid_84 flX11_53 rfl (hi.sh rfl rfl) (hi.rf (o := 83) (k := 31) (d := 14) rfl rfl) (s_bipush 12 dX11_laid_87 (by decide) (s_iload_n dX11_laid_89 rfl (s_imul dX11_laid_90 (s_iload dX11_laid_91 rfl (s_iconst 1 dX11_laid_93 (by decide) (s_callV (As := [.ref 97, .int (12 * v1), .int v6, .int 1]) dX11_laid_94 rfl lvX11_256 ⟨Nat.le_of_ble_eq_true rfl, Nat.le_of_ble_eq_true rfl⟩ (hi.sh rfl rfl) ⟨_, _, by decide, rfl⟩ rfl (Nat.le_of_ble_eq_true rfl) (K)))))))))
theorem bX11_laid_97 {G : GX} {h : mH} {Q : mO → mH → Prop} {v1 : Int32} {v2 : Int32} {v4 : Int32} {v5 : Int32} {v6 : Int32} {vs0 : Int32} {vs1 : Int32} (hi : Iv h) (K : vp_in (fX11_cellOf vs1 vs0) 729 ∧ (vp_in (fX11_cellOf vs1 vs0) 729 ∧ WM G jX11_penOf [.ref 83, .ref 97, .int (12 * v2), .int v6, .int 0] (pI h 96 (Int32.toNatClampNeg (fX11_cellOf vs1 vs0)) ((gI h 96 (Int32.toNatClampNeg (fX11_cellOf vs1 vs0))) ||| (1 : Int32))) (Aft G jX11_laid 121 [some (.ref 83), some (.int v1), some (.int v2), none, some (.int v4), some (.int v5), some (.int v6), none] [.ref 96] Q))) : Vw G jX11_laid 97 [some (.ref 83), some (.int v1), some (.int v2), none, some (.int v4), some (.int v5), some (.int v6), none] [.int vs0, .int vs1, .ref 96] h Q :=
  s_callS (As := [.int vs1, .int vs0]) dX11_laid_97 rfl lsX11_272 ⟨Nat.le_of_ble_eq_true rfl, Nat.le_of_ble_eq_true rfl⟩ rfl (Nat.le_of_ble_eq_true rfl) (mX11_cellOf   (s_dup2ir dX11_laid_100 (s_iaload dX11_laid_101 (hi.sh rfl rfl) K.1 (s_iconst 1 dX11_laid_102 (by decide) (s_ior dX11_laid_103 (s_iastore dX11_laid_104 (hi.sh rfl rfl) K.2.1 (s_aload_n dX11_laid_105 rfl (s_getR (v := .ref 96) dX11_laid_106 flX11_50 rfl (hi.sh rfl rfl) (hi.rf (o := 83) (k := 29) (d := 13) rfl rfl) (s_aload_n dX11_laid_109 rfl (s_aload_n dX11_laid_110 rfl (s_getR (v := .ref 97) dX11_laid_111 flX11_53 rfl (hi.sh rfl rfl) (hi.rf (o := 83) (k := 31) (d := 14) rfl rfl) (s_bipush 12 dX11_laid_114 (by decide) (s_iload_n dX11_laid_116 rfl (s_imul dX11_laid_117 (s_iload dX11_laid_118 rfl (s_iconst 0 dX11_laid_120 (by decide) (s_callV (As := [.ref 97, .int (12 * v2), .int v6, .int 0]) dX11_laid_121 rfl lvX11_256 ⟨Nat.le_of_ble_eq_true rfl, Nat.le_of_ble_eq_true rfl⟩ (hi.sh rfl rfl) ⟨_, _, by decide, rfl⟩ rfl (Nat.le_of_ble_eq_true rfl) (K.2.2))))))))))))))))))
theorem bX11_laid_124 {G : GX} {h : mH} {Q : mO → mH → Prop} {v1 : Int32} {v2 : Int32} {v4 : Int32} {v5 : Int32} {v6 : Int32} {vs0 : Int32} (hi : Iv h) (K : WM G jX11_penOf [.ref 83, .ref 97, .int (12 * v2), .int v6, .int 1] h (Aft G jX11_laid 136 [some (.ref 83), some (.int v1), some (.int v2), none, some (.int v4), some (.int v5), some (.int v6), none] [.int vs0, .ref 96] Q)) : Vw G jX11_laid 124 [some (.ref 83), some (.int v1), some (.int v2), none, some (.int v4), some (.int v5), some (.int v6), none] [.int vs0, .ref 96] h Q :=
  s_aload_n dX11_laid_124 rfl (s_aload_n dX11_laid_125 rfl (s_getR (v := .ref 97) dX11_laid_126 flX11_53 rfl (hi.sh rfl rfl) (hi.rf (o := 83) (k := 31) (d := 14) rfl rfl) (s_bipush 12 dX11_laid_129 (by decide) (s_iload_n dX11_laid_131 rfl (s_imul dX11_laid_132 (s_iload dX11_laid_133 rfl (s_iconst 1 dX11_laid_135 (by decide) (s_callV (As := [.ref 97, .int (12 * v2), .int v6, .int 1]) dX11_laid_136 rfl lvX11_256 ⟨Nat.le_of_ble_eq_true rfl, Nat.le_of_ble_eq_true rfl⟩ (hi.sh rfl rfl) ⟨_, _, by decide, rfl⟩ rfl (Nat.le_of_ble_eq_true rfl) (K)))))))))
theorem bX11_laid_139 {G : GX} {h : mH} {Q : mO → mH → Prop} {v1 : Int32} {v2 : Int32} {v4 : Int32} {v5 : Int32} {v6 : Int32} {vs0 : Int32} {vs1 : Int32} (hi : Iv h) (K : vp_in (fX11_cellOf vs1 vs0) 729 ∧ (vp_in (fX11_cellOf vs1 vs0) 729 ∧ Vw G jX11_laid 56 [some (.ref 83), some (.int v1), some (.int v2), none, some (.int v4), some (.int v5), some (.int (v6 + 1)), none] [] (pI h 96 (Int32.toNatClampNeg (fX11_cellOf vs1 vs0)) ((gI h 96 (Int32.toNatClampNeg (fX11_cellOf vs1 vs0))) ||| (2 : Int32))) Q)) : Vw G jX11_laid 139 [some (.ref 83), some (.int v1), some (.int v2), none, some (.int v4), some (.int v5), some (.int v6), none] [.int vs0, .int vs1, .ref 96] h Q :=
  s_callS (As := [.int vs1, .int vs0]) dX11_laid_139 rfl lsX11_272 ⟨Nat.le_of_ble_eq_true rfl, Nat.le_of_ble_eq_true rfl⟩ rfl (Nat.le_of_ble_eq_true rfl) (mX11_cellOf   (s_dup2ir dX11_laid_142 (s_iaload dX11_laid_143 (hi.sh rfl rfl) K.1 (s_iconst 2 dX11_laid_144 (by decide) (s_ior dX11_laid_145 (s_iastore dX11_laid_146 (hi.sh rfl rfl) K.2.1 (s_iinc 1 dX11_laid_147 rfl (by decide) (Nat.le_of_ble_eq_true rfl) rfl (s_goto 56 dX11_laid_150 rfl (K.2.2)))))))))
theorem bX11_laid_159 {G : GX} {h : mH} {Q : mO → mH → Prop} {v5 : Int32} {v6 : Int32} {v7 : Int32} (hi : Iv h) (K : (729 ≤ v7 → Q (.inl (some (.int v6))) h) ∧ (¬ 729 ≤ v7 → (vp_in v7 729 ∧ ((¬ v5 = 0 → ((¬ (gI h 96 (Int32.toNatClampNeg v7)) = v5 → Vw G jX11_laid 159 [some (.ref 83), none, none, none, none, some (.int v5), some (.int (v6 + 0)), some (.int (v7 + 1))] [] h Q) ∧ ((gI h 96 (Int32.toNatClampNeg v7)) = v5 → Vw G jX11_laid 159 [some (.ref 83), none, none, none, none, some (.int v5), some (.int (v6 + 1)), some (.int (v7 + 1))] [] h Q))) ∧ (v5 = 0 → ((¬ (gI h 96 (Int32.toNatClampNeg v7)) = 3 → Vw G jX11_laid 159 [some (.ref 83), none, none, none, none, some (.int v5), some (.int (v6 + 0)), some (.int (v7 + 1))] [] h Q) ∧ ((gI h 96 (Int32.toNatClampNeg v7)) = 3 → Vw G jX11_laid 159 [some (.ref 83), none, none, none, none, some (.int v5), some (.int (v6 + 1)), some (.int (v7 + 1))] [] h Q))))))) : Vw G jX11_laid 159 [some (.ref 83), none, none, none, none, some (.int v5), some (.int v6), some (.int v7)] [] h Q :=
  s_iload dX11_laid_159 rfl (s_sipush 729 dX11_laid_161 (by decide) (s_icmp_ge 204 dX11_laid_164 rfl (fun q2 => s_iload dX11_laid_204 rfl (s_ireturn dX11_laid_206 rfl (K.1 q2))) (fun q2 => s_iload dX11_laid_167 rfl (s_aload_n dX11_laid_169 rfl (s_getR (v := .ref 96) dX11_laid_170 flX11_50 rfl (hi.sh rfl rfl) (hi.rf (o := 83) (k := 29) (d := 13) rfl rfl) (s_iload dX11_laid_173 rfl (s_iaload dX11_laid_175 (hi.sh rfl rfl) (K.2 q2).1 (s_iload dX11_laid_176 rfl (s_if_ne 185 dX11_laid_178 rfl (fun q9 => s_iload dX11_laid_185 rfl (s_icmp_ne 194 dX11_laid_187 rfl (fun q11 => s_iconst 0 dX11_laid_194 (by decide) (s_iadd dX11_laid_195 (s_istore dX11_laid_196 (Nat.le_of_ble_eq_true rfl) rfl (s_iinc 1 dX11_laid_198 rfl (by decide) (Nat.le_of_ble_eq_true rfl) rfl (s_goto 159 dX11_laid_201 rfl ((((K.2 q2).2.1 q9).1 q11))))))) (fun q11 => s_iconst 1 dX11_laid_190 (by decide) (s_goto 195 dX11_laid_191 rfl (s_iadd dX11_laid_195 (s_istore dX11_laid_196 (Nat.le_of_ble_eq_true rfl) rfl (s_iinc 1 dX11_laid_198 rfl (by decide) (Nat.le_of_ble_eq_true rfl) rfl (s_goto 159 dX11_laid_201 rfl ((((K.2 q2).2.1 q9).2 q11)))))))))) (fun q9 => s_iconst 3 dX11_laid_181 (by decide) (s_goto 187 dX11_laid_182 rfl (s_icmp_ne 194 dX11_laid_187 rfl (fun q12 => s_iconst 0 dX11_laid_194 (by decide) (s_iadd dX11_laid_195 (s_istore dX11_laid_196 (Nat.le_of_ble_eq_true rfl) rfl (s_iinc 1 dX11_laid_198 rfl (by decide) (Nat.le_of_ble_eq_true rfl) rfl (s_goto 159 dX11_laid_201 rfl ((((K.2 q2).2.2 q9).1 q12))))))) (fun q12 => s_iconst 1 dX11_laid_190 (by decide) (s_goto 195 dX11_laid_191 rfl (s_iadd dX11_laid_195 (s_istore dX11_laid_196 (Nat.le_of_ble_eq_true rfl) rfl (s_iinc 1 dX11_laid_198 rfl (by decide) (Nat.le_of_ble_eq_true rfl) rfl (s_goto 159 dX11_laid_201 rfl ((((K.2 q2).2.2 q9).2 q12))))))))))))))))))))
theorem eX11_laid {G : GX} {h : mH} {Q : mO → mH → Prop} {v1 : Int32} {v2 : Int32} {v3 : Int32} {v4 : Int32} {v5 : Int32} (hi : Iv h) (K : WM G jX11_isPortrait [.ref 83, .int v1] (pI h 83 0 0) (Aft G jX11_laid 7 [some (.ref 83), some (.int v1), some (.int v2), some (.int v3), some (.int v4), some (.int v5), none, none] [] Q)) : WM G jX11_laid [.ref 83, .int v1, .int v2, .int v3, .int v4, .int v5] h Q :=
  WM.body (ls := [some (.ref 83), some (.int v1), some (.int v2), some (.int v3), some (.int v4), some (.int v5), none, none]) rfl (by decide +kernel) rfl (Nat.le_of_ble_eq_true rfl) rfl ((bX11_laid_0 hi  K))
theorem dX11_moved_0 : decode cX11_moved 0 = .ok (.iconst 0, 1) := by decide +kernel
theorem dX11_moved_1 : decode cX11_moved 1 = .ok (.istore_n 3, 1) := by decide +kernel
theorem dX11_moved_2 : decode cX11_moved 2 = .ok (.iconst 0, 1) := by decide +kernel
theorem dX11_moved_3 : decode cX11_moved 3 = .ok (.istore 4, 2) := by decide +kernel
theorem dX11_moved_5 : decode cX11_moved 5 = .ok (.iload 4, 2) := by decide +kernel
theorem dX11_moved_7 : decode cX11_moved 7 = .ok (.iconst 4, 1) := by decide +kernel
theorem dX11_moved_8 : decode cX11_moved 8 = .ok (.if_icmp .ge 65, 3) := by decide +kernel
theorem dX11_moved_11 : decode cX11_moved 11 = .ok (.iload_n 3, 1) := by decide +kernel
theorem dX11_moved_12 : decode cX11_moved 12 = .ok (.aload_n 0, 1) := by decide +kernel
theorem dX11_moved_13 : decode cX11_moved 13 = .ok (.getfield 53, 3) := by decide +kernel
theorem dX11_moved_16 : decode cX11_moved 16 = .ok (.bipush 12, 2) := by decide +kernel
theorem dX11_moved_18 : decode cX11_moved 18 = .ok (.iload_n 2, 1) := by decide +kernel
theorem dX11_moved_19 : decode cX11_moved 19 = .ok (.imul, 1) := by decide +kernel
theorem dX11_moved_20 : decode cX11_moved 20 = .ok (.iload 4, 2) := by decide +kernel
theorem dX11_moved_22 : decode cX11_moved 22 = .ok (.iadd, 1) := by decide +kernel
theorem dX11_moved_23 : decode cX11_moved 23 = .ok (.iaload, 1) := by decide +kernel
theorem dX11_moved_24 : decode cX11_moved 24 = .ok (.iload_n 1, 1) := by decide +kernel
theorem dX11_moved_25 : decode cX11_moved 25 = .ok (.iconst (-1), 1) := by decide +kernel
theorem dX11_moved_26 : decode cX11_moved 26 = .ok (.if_icmp .ne 13, 3) := by decide +kernel
theorem dX11_moved_29 : decode cX11_moved 29 = .ok (.aload_n 0, 1) := by decide +kernel
theorem dX11_moved_30 : decode cX11_moved 30 = .ok (.getfield 19, 3) := by decide +kernel
theorem dX11_moved_33 : decode cX11_moved 33 = .ok (.iload 4, 2) := by decide +kernel
theorem dX11_moved_35 : decode cX11_moved 35 = .ok (.iaload, 1) := by decide +kernel
theorem dX11_moved_36 : decode cX11_moved 36 = .ok (.goto 25, 3) := by decide +kernel
theorem dX11_moved_39 : decode cX11_moved 39 = .ok (.iload_n 1, 1) := by decide +kernel
theorem dX11_moved_40 : decode cX11_moved 40 = .ok (.bipush 8, 2) := by decide +kernel
theorem dX11_moved_42 : decode cX11_moved 42 = .ok (.if_icmp .ne 7, 3) := by decide +kernel
theorem dX11_moved_45 : decode cX11_moved 45 = .ok (.iconst 0, 1) := by decide +kernel
theorem dX11_moved_46 : decode cX11_moved 46 = .ok (.goto 15, 3) := by decide +kernel
theorem dX11_moved_49 : decode cX11_moved 49 = .ok (.aload_n 0, 1) := by decide +kernel
theorem dX11_moved_50 : decode cX11_moved 50 = .ok (.getfield 53, 3) := by decide +kernel
theorem dX11_moved_53 : decode cX11_moved 53 = .ok (.bipush 12, 2) := by decide +kernel
theorem dX11_moved_55 : decode cX11_moved 55 = .ok (.iload_n 1, 1) := by decide +kernel
theorem dX11_moved_56 : decode cX11_moved 56 = .ok (.imul, 1) := by decide +kernel
theorem dX11_moved_57 : decode cX11_moved 57 = .ok (.iload 4, 2) := by decide +kernel
theorem dX11_moved_59 : decode cX11_moved 59 = .ok (.iadd, 1) := by decide +kernel
theorem dX11_moved_60 : decode cX11_moved 60 = .ok (.iaload, 1) := by decide +kernel
theorem dX11_moved_61 : decode cX11_moved 61 = .ok (.isub, 1) := by decide +kernel
theorem dX11_moved_62 : decode cX11_moved 62 = .ok (.invokestatic 279, 3) := by decide +kernel
theorem dX11_moved_65 : decode cX11_moved 65 = .ok (.iadd, 1) := by decide +kernel
theorem dX11_moved_66 : decode cX11_moved 66 = .ok (.istore_n 3, 1) := by decide +kernel
theorem dX11_moved_67 : decode cX11_moved 67 = .ok (.iinc 4 1, 3) := by decide +kernel
theorem dX11_moved_70 : decode cX11_moved 70 = .ok (.goto (-65), 3) := by decide +kernel
theorem dX11_moved_73 : decode cX11_moved 73 = .ok (.iload_n 3, 1) := by decide +kernel
theorem dX11_moved_74 : decode cX11_moved 74 = .ok (.ireturn, 1) := by decide +kernel
theorem bX11_moved_0 {G : GX} {h : mH} {Q : mO → mH → Prop} {v1 : Int32} {v2 : Int32} (hi : Iv h) (K : Vw G jX11_moved 5 [some (.ref 83), some (.int v1), some (.int v2), some (.int 0), some (.int 0)] [] h Q) : Vw G jX11_moved 0 [some (.ref 83), some (.int v1), some (.int v2), none, none] [] h Q :=
  s_iconst 0 dX11_moved_0 (by decide) (s_istore_n dX11_moved_1 (Nat.le_of_ble_eq_true rfl) rfl (s_iconst 0 dX11_moved_2 (by decide) (s_istore dX11_moved_3 (Nat.le_of_ble_eq_true rfl) rfl (K))))
theorem bX11_moved_5 {G : GX} {h : mH} {Q : mO → mH → Prop} {v1 : Int32} {v2 : Int32} {v3 : Int32} {v4 : Int32} (hi : Iv h) (K : (4 ≤ v4 → Q (.inl (some (.int v3))) h) ∧ (¬ 4 ≤ v4 → (vp_in ((12 * v2) + v4) 96 ∧ ((¬ v1 = (-1) → ((¬ v1 = 8 → (vp_in ((12 * v1) + v4) 96 ∧ Vw G jX11_moved 5 [some (.ref 83), some (.int v1), some (.int v2), some (.int (v3 + (fX11_size ((gI h 97 (Int32.toNatClampNeg ((12 * v2) + v4))) - (gI h 97 (Int32.toNatClampNeg ((12 * v1) + v4))))))), some (.int (v4 + 1))] [] h Q)) ∧ (v1 = 8 → Vw G jX11_moved 5 [some (.ref 83), some (.int v1), some (.int v2), some (.int (v3 + (fX11_size ((gI h 97 (Int32.toNatClampNeg ((12 * v2) + v4))) - 0)))), some (.int (v4 + 1))] [] h Q))) ∧ (v1 = (-1) → (vp_in v4 12 ∧ Vw G jX11_moved 5 [some (.ref 83), some (.int v1), some (.int v2), some (.int (v3 + (fX11_size ((gI h 97 (Int32.toNatClampNeg ((12 * v2) + v4))) - (gI h 87 (Int32.toNatClampNeg v4)))))), some (.int (v4 + 1))] [] h Q)))))) : Vw G jX11_moved 5 [some (.ref 83), some (.int v1), some (.int v2), some (.int v3), some (.int v4)] [] h Q :=
  s_iload dX11_moved_5 rfl (s_iconst 4 dX11_moved_7 (by decide) (s_icmp_ge 73 dX11_moved_8 rfl (fun q2 => s_iload_n dX11_moved_73 rfl (s_ireturn dX11_moved_74 rfl (K.1 q2))) (fun q2 => s_iload_n dX11_moved_11 rfl (s_aload_n dX11_moved_12 rfl (s_getR (v := .ref 97) dX11_moved_13 flX11_53 rfl (hi.sh rfl rfl) (hi.rf (o := 83) (k := 31) (d := 14) rfl rfl) (s_bipush 12 dX11_moved_16 (by decide) (s_iload_n dX11_moved_18 rfl (s_imul dX11_moved_19 (s_iload dX11_moved_20 rfl (s_iadd dX11_moved_22 (s_iaload dX11_moved_23 (hi.sh rfl rfl) (K.2 q2).1 (s_iload_n dX11_moved_24 rfl (s_iconst (-1) dX11_moved_25 (by decide) (s_icmp_ne 39 dX11_moved_26 rfl (fun q14 => s_iload_n dX11_moved_39 rfl (s_bipush 8 dX11_moved_40 (by decide) (s_icmp_ne 49 dX11_moved_42 rfl (fun q17 => s_aload_n dX11_moved_49 rfl (s_getR (v := .ref 97) dX11_moved_50 flX11_53 rfl (hi.sh rfl rfl) (hi.rf (o := 83) (k := 31) (d := 14) rfl rfl) (s_bipush 12 dX11_moved_53 (by decide) (s_iload_n dX11_moved_55 rfl (s_imul dX11_moved_56 (s_iload dX11_moved_57 rfl (s_iadd dX11_moved_59 (s_iaload dX11_moved_60 (hi.sh rfl rfl) (((K.2 q2).2.1 q14).1 q17).1 (s_isub dX11_moved_61 (s_callS (As := [.int ((gI h 97 (Int32.toNatClampNeg ((12 * v2) + v4))) - (gI h 97 (Int32.toNatClampNeg ((12 * v1) + v4))))]) dX11_moved_62 rfl lsX11_279 ⟨Nat.le_of_ble_eq_true rfl, Nat.le_of_ble_eq_true rfl⟩ rfl (Nat.le_of_ble_eq_true rfl) (mX11_size   (s_iadd dX11_moved_65 (s_istore_n dX11_moved_66 (Nat.le_of_ble_eq_true rfl) rfl (s_iinc 1 dX11_moved_67 rfl (by decide) (Nat.le_of_ble_eq_true rfl) rfl (s_goto 5 dX11_moved_70 rfl ((((K.2 q2).2.1 q14).1 q17).2)))))))))))))))) (fun q17 => s_iconst 0 dX11_moved_45 (by decide) (s_goto 61 dX11_moved_46 rfl (s_isub dX11_moved_61 (s_callS (As := [.int ((gI h 97 (Int32.toNatClampNeg ((12 * v2) + v4))) - 0)]) dX11_moved_62 rfl lsX11_279 ⟨Nat.le_of_ble_eq_true rfl, Nat.le_of_ble_eq_true rfl⟩ rfl (Nat.le_of_ble_eq_true rfl) (mX11_size   (s_iadd dX11_moved_65 (s_istore_n dX11_moved_66 (Nat.le_of_ble_eq_true rfl) rfl (s_iinc 1 dX11_moved_67 rfl (by decide) (Nat.le_of_ble_eq_true rfl) rfl (s_goto 5 dX11_moved_70 rfl ((((K.2 q2).2.1 q14).2 q17)))))))))))))) (fun q14 => s_aload_n dX11_moved_29 rfl (s_getR (v := .ref 87) dX11_moved_30 flX11_19 rfl (hi.sh rfl rfl) (hi.rf (o := 83) (k := 6) (d := 4) rfl rfl) (s_iload dX11_moved_33 rfl (s_iaload dX11_moved_35 (hi.sh rfl rfl) ((K.2 q2).2.2 q14).1 (s_goto 61 dX11_moved_36 rfl (s_isub dX11_moved_61 (s_callS (As := [.int ((gI h 97 (Int32.toNatClampNeg ((12 * v2) + v4))) - (gI h 87 (Int32.toNatClampNeg v4)))]) dX11_moved_62 rfl lsX11_279 ⟨Nat.le_of_ble_eq_true rfl, Nat.le_of_ble_eq_true rfl⟩ rfl (Nat.le_of_ble_eq_true rfl) (mX11_size   (s_iadd dX11_moved_65 (s_istore_n dX11_moved_66 (Nat.le_of_ble_eq_true rfl) rfl (s_iinc 1 dX11_moved_67 rfl (by decide) (Nat.le_of_ble_eq_true rfl) rfl (s_goto 5 dX11_moved_70 rfl (((K.2 q2).2.2 q14).2)))))))))))))))))))))))))))
theorem eX11_moved {G : GX} {h : mH} {Q : mO → mH → Prop} {v1 : Int32} {v2 : Int32} (hi : Iv h) (K : Vw G jX11_moved 5 [some (.ref 83), some (.int v1), some (.int v2), some (.int 0), some (.int 0)] [] h Q) : WM G jX11_moved [.ref 83, .int v1, .int v2] h Q :=
  WM.body (ls := [some (.ref 83), some (.int v1), some (.int v2), none, none]) rfl (by decide +kernel) rfl (Nat.le_of_ble_eq_true rfl) rfl ((bX11_moved_0 hi  K))
theorem dX11_allMoved_0 : decode cX11_allMoved 0 = .ok (.iconst 0, 1) := by decide +kernel
theorem dX11_allMoved_1 : decode cX11_allMoved 1 = .ok (.istore_n 3, 1) := by decide +kernel
theorem dX11_allMoved_2 : decode cX11_allMoved 2 = .ok (.iconst 0, 1) := by decide +kernel
theorem dX11_allMoved_3 : decode cX11_allMoved 3 = .ok (.istore 4, 2) := by decide +kernel
theorem dX11_allMoved_5 : decode cX11_allMoved 5 = .ok (.iload 4, 2) := by decide +kernel
theorem dX11_allMoved_7 : decode cX11_allMoved 7 = .ok (.iload_n 1, 1) := by decide +kernel
theorem dX11_allMoved_8 : decode cX11_allMoved 8 = .ok (.if_icmp .ge 52, 3) := by decide +kernel
theorem dX11_allMoved_11 : decode cX11_allMoved 11 = .ok (.iload_n 3, 1) := by decide +kernel
theorem dX11_allMoved_12 : decode cX11_allMoved 12 = .ok (.aload_n 0, 1) := by decide +kernel
theorem dX11_allMoved_13 : decode cX11_allMoved 13 = .ok (.iload 4, 2) := by decide +kernel
theorem dX11_allMoved_15 : decode cX11_allMoved 15 = .ok (.ifCond .ne 7, 3) := by decide +kernel
theorem dX11_allMoved_18 : decode cX11_allMoved 18 = .ok (.iconst (-1), 1) := by decide +kernel
theorem dX11_allMoved_19 : decode cX11_allMoved 19 = .ok (.goto 23, 3) := by decide +kernel
theorem dX11_allMoved_22 : decode cX11_allMoved 22 = .ok (.iload 4, 2) := by decide +kernel
theorem dX11_allMoved_24 : decode cX11_allMoved 24 = .ok (.iload_n 2, 1) := by decide +kernel
theorem dX11_allMoved_25 : decode cX11_allMoved 25 = .ok (.if_icmp .ne 8, 3) := by decide +kernel
theorem dX11_allMoved_28 : decode cX11_allMoved 28 = .ok (.bipush 8, 2) := by decide +kernel
theorem dX11_allMoved_30 : decode cX11_allMoved 30 = .ok (.goto 12, 3) := by decide +kernel
theorem dX11_allMoved_33 : decode cX11_allMoved 33 = .ok (.aload_n 0, 1) := by decide +kernel
theorem dX11_allMoved_34 : decode cX11_allMoved 34 = .ok (.getfield 68, 3) := by decide +kernel
theorem dX11_allMoved_37 : decode cX11_allMoved 37 = .ok (.iload 4, 2) := by decide +kernel
theorem dX11_allMoved_39 : decode cX11_allMoved 39 = .ok (.iconst 1, 1) := by decide +kernel
theorem dX11_allMoved_40 : decode cX11_allMoved 40 = .ok (.isub, 1) := by decide +kernel
theorem dX11_allMoved_41 : decode cX11_allMoved 41 = .ok (.iaload, 1) := by decide +kernel
theorem dX11_allMoved_42 : decode cX11_allMoved 42 = .ok (.aload_n 0, 1) := by decide +kernel
theorem dX11_allMoved_43 : decode cX11_allMoved 43 = .ok (.getfield 68, 3) := by decide +kernel
theorem dX11_allMoved_46 : decode cX11_allMoved 46 = .ok (.iload 4, 2) := by decide +kernel
theorem dX11_allMoved_48 : decode cX11_allMoved 48 = .ok (.iaload, 1) := by decide +kernel
theorem dX11_allMoved_49 : decode cX11_allMoved 49 = .ok (.invokevirtual 316, 3) := by decide +kernel
theorem dX11_allMoved_52 : decode cX11_allMoved 52 = .ok (.iadd, 1) := by decide +kernel
theorem dX11_allMoved_53 : decode cX11_allMoved 53 = .ok (.istore_n 3, 1) := by decide +kernel
theorem dX11_allMoved_54 : decode cX11_allMoved 54 = .ok (.iinc 4 1, 3) := by decide +kernel
theorem dX11_allMoved_57 : decode cX11_allMoved 57 = .ok (.goto (-52), 3) := by decide +kernel
theorem dX11_allMoved_60 : decode cX11_allMoved 60 = .ok (.iload_n 3, 1) := by decide +kernel
theorem dX11_allMoved_61 : decode cX11_allMoved 61 = .ok (.ireturn, 1) := by decide +kernel
theorem bX11_allMoved_0 {G : GX} {h : mH} {Q : mO → mH → Prop} {v1 : Int32} {v2 : Int32} (hi : Iv h) (K : Vw G jX11_allMoved 5 [some (.ref 83), some (.int v1), some (.int v2), some (.int 0), some (.int 0)] [] h Q) : Vw G jX11_allMoved 0 [some (.ref 83), some (.int v1), some (.int v2), none, none] [] h Q :=
  s_iconst 0 dX11_allMoved_0 (by decide) (s_istore_n dX11_allMoved_1 (Nat.le_of_ble_eq_true rfl) rfl (s_iconst 0 dX11_allMoved_2 (by decide) (s_istore dX11_allMoved_3 (Nat.le_of_ble_eq_true rfl) rfl (K))))
theorem bX11_allMoved_5 {G : GX} {h : mH} {Q : mO → mH → Prop} {v1 : Int32} {v2 : Int32} {v3 : Int32} {v4 : Int32} (hi : Iv h) (K : (v1 ≤ v4 → Q (.inl (some (.int v3))) h) ∧ (¬ v1 ≤ v4 → ((¬ v4 = 0 → ((¬ v4 = v2 → (vp_in (v4 - 1) 8 ∧ (vp_in v4 8 ∧ WM G jX11_moved [.ref 83, .int (gI h 102 (Int32.toNatClampNeg (v4 - 1))), .int (gI h 102 (Int32.toNatClampNeg v4))] h (Aft G jX11_allMoved 49 [some (.ref 83), some (.int v1), some (.int v2), none, some (.int v4)] [.int v3] Q)))) ∧ (v4 = v2 → (vp_in v4 8 ∧ WM G jX11_moved [.ref 83, .int 8, .int (gI h 102 (Int32.toNatClampNeg v4))] h (Aft G jX11_allMoved 49 [some (.ref 83), some (.int v1), some (.int v2), none, some (.int v4)] [.int v3] Q))))) ∧ (v4 = 0 → (vp_in v4 8 ∧ WM G jX11_moved [.ref 83, .int (-1), .int (gI h 102 (Int32.toNatClampNeg v4))] h (Aft G jX11_allMoved 49 [some (.ref 83), some (.int v1), some (.int v2), none, some (.int v4)] [.int v3] Q)))))) : Vw G jX11_allMoved 5 [some (.ref 83), some (.int v1), some (.int v2), some (.int v3), some (.int v4)] [] h Q :=
  s_iload dX11_allMoved_5 rfl (s_iload_n dX11_allMoved_7 rfl (s_icmp_ge 60 dX11_allMoved_8 rfl (fun q2 => s_iload_n dX11_allMoved_60 rfl (s_ireturn dX11_allMoved_61 rfl (K.1 q2))) (fun q2 => s_iload_n dX11_allMoved_11 rfl (s_aload_n dX11_allMoved_12 rfl (s_iload dX11_allMoved_13 rfl (s_if_ne 22 dX11_allMoved_15 rfl (fun q6 => s_iload dX11_allMoved_22 rfl (s_iload_n dX11_allMoved_24 rfl (s_icmp_ne 33 dX11_allMoved_25 rfl (fun q9 => s_aload_n dX11_allMoved_33 rfl (s_getR (v := .ref 102) dX11_allMoved_34 flX11_68 rfl (hi.sh rfl rfl) (hi.rf (o := 83) (k := 38) (d := 19) rfl rfl) (s_iload dX11_allMoved_37 rfl (s_iconst 1 dX11_allMoved_39 (by decide) (s_isub dX11_allMoved_40 (s_iaload dX11_allMoved_41 (hi.sh rfl rfl) (((K.2 q2).1 q6).1 q9).1 (s_aload_n dX11_allMoved_42 rfl (s_getR (v := .ref 102) dX11_allMoved_43 flX11_68 rfl (hi.sh rfl rfl) (hi.rf (o := 83) (k := 38) (d := 19) rfl rfl) (s_iload dX11_allMoved_46 rfl (s_iaload dX11_allMoved_48 (hi.sh rfl rfl) (((K.2 q2).1 q6).1 q9).2.1 (Vw.mask [true, true, true, false, true] (s_callV (As := [.int (gI h 102 (Int32.toNatClampNeg (v4 - 1))), .int (gI h 102 (Int32.toNatClampNeg v4))]) dX11_allMoved_49 rfl lvX11_316 ⟨Nat.le_of_ble_eq_true rfl, Nat.le_of_ble_eq_true rfl⟩ (hi.sh rfl rfl) ⟨_, _, by decide, rfl⟩ rfl (Nat.le_of_ble_eq_true rfl) ((((K.2 q2).1 q6).1 q9).2.2))))))))))))) (fun q9 => s_bipush 8 dX11_allMoved_28 (by decide) (s_goto 42 dX11_allMoved_30 rfl (s_aload_n dX11_allMoved_42 rfl (s_getR (v := .ref 102) dX11_allMoved_43 flX11_68 rfl (hi.sh rfl rfl) (hi.rf (o := 83) (k := 38) (d := 19) rfl rfl) (s_iload dX11_allMoved_46 rfl (s_iaload dX11_allMoved_48 (hi.sh rfl rfl) (((K.2 q2).1 q6).2 q9).1 (Vw.mask [true, true, true, false, true] (s_callV (As := [.int 8, .int (gI h 102 (Int32.toNatClampNeg v4))]) dX11_allMoved_49 rfl lvX11_316 ⟨Nat.le_of_ble_eq_true rfl, Nat.le_of_ble_eq_true rfl⟩ (hi.sh rfl rfl) ⟨_, _, by decide, rfl⟩ rfl (Nat.le_of_ble_eq_true rfl) ((((K.2 q2).1 q6).2 q9).2)))))))))))) (fun q6 => s_iconst (-1) dX11_allMoved_18 (by decide) (s_goto 42 dX11_allMoved_19 rfl (s_aload_n dX11_allMoved_42 rfl (s_getR (v := .ref 102) dX11_allMoved_43 flX11_68 rfl (hi.sh rfl rfl) (hi.rf (o := 83) (k := 38) (d := 19) rfl rfl) (s_iload dX11_allMoved_46 rfl (s_iaload dX11_allMoved_48 (hi.sh rfl rfl) ((K.2 q2).2 q6).1 (Vw.mask [true, true, true, false, true] (s_callV (As := [.int (-1), .int (gI h 102 (Int32.toNatClampNeg v4))]) dX11_allMoved_49 rfl lvX11_316 ⟨Nat.le_of_ble_eq_true rfl, Nat.le_of_ble_eq_true rfl⟩ (hi.sh rfl rfl) ⟨_, _, by decide, rfl⟩ rfl (Nat.le_of_ble_eq_true rfl) (((K.2 q2).2 q6).2)))))))))))))))
theorem bX11_allMoved_52 {G : GX} {h : mH} {Q : mO → mH → Prop} {v1 : Int32} {v2 : Int32} {v4 : Int32} {vs0 : Int32} {vs1 : Int32} (hi : Iv h) (K : Vw G jX11_allMoved 5 [some (.ref 83), some (.int v1), some (.int v2), some (.int (vs1 + vs0)), some (.int (v4 + 1))] [] h Q) : Vw G jX11_allMoved 52 [some (.ref 83), some (.int v1), some (.int v2), none, some (.int v4)] [.int vs0, .int vs1] h Q :=
  s_iadd dX11_allMoved_52 (s_istore_n dX11_allMoved_53 (Nat.le_of_ble_eq_true rfl) rfl (s_iinc 1 dX11_allMoved_54 rfl (by decide) (Nat.le_of_ble_eq_true rfl) rfl (s_goto 5 dX11_allMoved_57 rfl (K))))
theorem eX11_allMoved {G : GX} {h : mH} {Q : mO → mH → Prop} {v1 : Int32} {v2 : Int32} (hi : Iv h) (K : Vw G jX11_allMoved 5 [some (.ref 83), some (.int v1), some (.int v2), some (.int 0), some (.int 0)] [] h Q) : WM G jX11_allMoved [.ref 83, .int v1, .int v2] h Q :=
  WM.body (ls := [some (.ref 83), some (.int v1), some (.int v2), none, none]) rfl (by decide +kernel) rfl (Nat.le_of_ble_eq_true rfl) rfl ((bX11_allMoved_0 hi  K))
theorem dX11_countsUp_0 : decode cX11_countsUp 0 = .ok (.iload_n 1, 1) := by decide +kernel
theorem dX11_countsUp_1 : decode cX11_countsUp 1 = .ok (.iconst 2, 1) := by decide +kernel
theorem dX11_countsUp_2 : decode cX11_countsUp 2 = .ok (.isub, 1) := by decide +kernel
theorem dX11_countsUp_3 : decode cX11_countsUp 3 = .ok (.istore_n 2, 1) := by decide +kernel
theorem dX11_countsUp_4 : decode cX11_countsUp 4 = .ok (.iload_n 2, 1) := by decide +kernel
theorem dX11_countsUp_5 : decode cX11_countsUp 5 = .ok (.ifCond .lt 26, 3) := by decide +kernel
theorem dX11_countsUp_8 : decode cX11_countsUp 8 = .ok (.aload_n 0, 1) := by decide +kernel
theorem dX11_countsUp_9 : decode cX11_countsUp 9 = .ok (.getfield 68, 3) := by decide +kernel
theorem dX11_countsUp_12 : decode cX11_countsUp 12 = .ok (.iload_n 2, 1) := by decide +kernel
theorem dX11_countsUp_13 : decode cX11_countsUp 13 = .ok (.iaload, 1) := by decide +kernel
theorem dX11_countsUp_14 : decode cX11_countsUp 14 = .ok (.aload_n 0, 1) := by decide +kernel
theorem dX11_countsUp_15 : decode cX11_countsUp 15 = .ok (.getfield 68, 3) := by decide +kernel
theorem dX11_countsUp_18 : decode cX11_countsUp 18 = .ok (.iload_n 2, 1) := by decide +kernel
theorem dX11_countsUp_19 : decode cX11_countsUp 19 = .ok (.iconst 1, 1) := by decide +kernel
theorem dX11_countsUp_20 : decode cX11_countsUp 20 = .ok (.iadd, 1) := by decide +kernel
theorem dX11_countsUp_21 : decode cX11_countsUp 21 = .ok (.iaload, 1) := by decide +kernel
theorem dX11_countsUp_22 : decode cX11_countsUp 22 = .ok (.if_icmp .le 9, 3) := by decide +kernel
theorem dX11_countsUp_25 : decode cX11_countsUp 25 = .ok (.iinc 2 (-1), 3) := by decide +kernel
theorem dX11_countsUp_28 : decode cX11_countsUp 28 = .ok (.goto (-24), 3) := by decide +kernel
theorem dX11_countsUp_31 : decode cX11_countsUp 31 = .ok (.iload_n 2, 1) := by decide +kernel
theorem dX11_countsUp_32 : decode cX11_countsUp 32 = .ok (.ifCond .ge 5, 3) := by decide +kernel
theorem dX11_countsUp_35 : decode cX11_countsUp 35 = .ok (.iconst 0, 1) := by decide +kernel
theorem dX11_countsUp_36 : decode cX11_countsUp 36 = .ok (.ireturn, 1) := by decide +kernel
theorem dX11_countsUp_37 : decode cX11_countsUp 37 = .ok (.iload_n 1, 1) := by decide +kernel
theorem dX11_countsUp_38 : decode cX11_countsUp 38 = .ok (.iconst 1, 1) := by decide +kernel
theorem dX11_countsUp_39 : decode cX11_countsUp 39 = .ok (.isub, 1) := by decide +kernel
theorem dX11_countsUp_40 : decode cX11_countsUp 40 = .ok (.istore_n 3, 1) := by decide +kernel
theorem dX11_countsUp_41 : decode cX11_countsUp 41 = .ok (.aload_n 0, 1) := by decide +kernel
theorem dX11_countsUp_42 : decode cX11_countsUp 42 = .ok (.getfield 68, 3) := by decide +kernel
theorem dX11_countsUp_45 : decode cX11_countsUp 45 = .ok (.iload_n 3, 1) := by decide +kernel
theorem dX11_countsUp_46 : decode cX11_countsUp 46 = .ok (.iaload, 1) := by decide +kernel
theorem dX11_countsUp_47 : decode cX11_countsUp 47 = .ok (.aload_n 0, 1) := by decide +kernel
theorem dX11_countsUp_48 : decode cX11_countsUp 48 = .ok (.getfield 68, 3) := by decide +kernel
theorem dX11_countsUp_51 : decode cX11_countsUp 51 = .ok (.iload_n 2, 1) := by decide +kernel
theorem dX11_countsUp_52 : decode cX11_countsUp 52 = .ok (.iaload, 1) := by decide +kernel
theorem dX11_countsUp_53 : decode cX11_countsUp 53 = .ok (.if_icmp .ge 9, 3) := by decide +kernel
theorem dX11_countsUp_56 : decode cX11_countsUp 56 = .ok (.iinc 3 (-1), 3) := by decide +kernel
theorem dX11_countsUp_59 : decode cX11_countsUp 59 = .ok (.goto (-18), 3) := by decide +kernel
theorem dX11_countsUp_62 : decode cX11_countsUp 62 = .ok (.aload_n 0, 1) := by decide +kernel
theorem dX11_countsUp_63 : decode cX11_countsUp 63 = .ok (.getfield 68, 3) := by decide +kernel
theorem dX11_countsUp_66 : decode cX11_countsUp 66 = .ok (.iload_n 2, 1) := by decide +kernel
theorem dX11_countsUp_67 : decode cX11_countsUp 67 = .ok (.iaload, 1) := by decide +kernel
theorem dX11_countsUp_68 : decode cX11_countsUp 68 = .ok (.istore 4, 2) := by decide +kernel
theorem dX11_countsUp_70 : decode cX11_countsUp 70 = .ok (.aload_n 0, 1) := by decide +kernel
theorem dX11_countsUp_71 : decode cX11_countsUp 71 = .ok (.getfield 68, 3) := by decide +kernel
theorem dX11_countsUp_74 : decode cX11_countsUp 74 = .ok (.iload_n 2, 1) := by decide +kernel
theorem dX11_countsUp_75 : decode cX11_countsUp 75 = .ok (.aload_n 0, 1) := by decide +kernel
theorem dX11_countsUp_76 : decode cX11_countsUp 76 = .ok (.getfield 68, 3) := by decide +kernel
theorem dX11_countsUp_79 : decode cX11_countsUp 79 = .ok (.iload_n 3, 1) := by decide +kernel
theorem dX11_countsUp_80 : decode cX11_countsUp 80 = .ok (.iaload, 1) := by decide +kernel
theorem dX11_countsUp_81 : decode cX11_countsUp 81 = .ok (.iastore, 1) := by decide +kernel
theorem dX11_countsUp_82 : decode cX11_countsUp 82 = .ok (.aload_n 0, 1) := by decide +kernel
theorem dX11_countsUp_83 : decode cX11_countsUp 83 = .ok (.getfield 68, 3) := by decide +kernel
theorem dX11_countsUp_86 : decode cX11_countsUp 86 = .ok (.iload_n 3, 1) := by decide +kernel
theorem dX11_countsUp_87 : decode cX11_countsUp 87 = .ok (.iload 4, 2) := by decide +kernel
theorem dX11_countsUp_89 : decode cX11_countsUp 89 = .ok (.iastore, 1) := by decide +kernel
theorem dX11_countsUp_90 : decode cX11_countsUp 90 = .ok (.iload_n 2, 1) := by decide +kernel
theorem dX11_countsUp_91 : decode cX11_countsUp 91 = .ok (.iconst 1, 1) := by decide +kernel
theorem dX11_countsUp_92 : decode cX11_countsUp 92 = .ok (.iadd, 1) := by decide +kernel
theorem dX11_countsUp_93 : decode cX11_countsUp 93 = .ok (.istore 5, 2) := by decide +kernel
theorem dX11_countsUp_95 : decode cX11_countsUp 95 = .ok (.iload_n 1, 1) := by decide +kernel
theorem dX11_countsUp_96 : decode cX11_countsUp 96 = .ok (.iconst 1, 1) := by decide +kernel
theorem dX11_countsUp_97 : decode cX11_countsUp 97 = .ok (.isub, 1) := by decide +kernel
theorem dX11_countsUp_98 : decode cX11_countsUp 98 = .ok (.istore 6, 2) := by decide +kernel
theorem dX11_countsUp_100 : decode cX11_countsUp 100 = .ok (.iload 5, 2) := by decide +kernel
theorem dX11_countsUp_102 : decode cX11_countsUp 102 = .ok (.iload 6, 2) := by decide +kernel
theorem dX11_countsUp_104 : decode cX11_countsUp 104 = .ok (.if_icmp .ge 44, 3) := by decide +kernel
theorem dX11_countsUp_107 : decode cX11_countsUp 107 = .ok (.aload_n 0, 1) := by decide +kernel
theorem dX11_countsUp_108 : decode cX11_countsUp 108 = .ok (.getfield 68, 3) := by decide +kernel
theorem dX11_countsUp_111 : decode cX11_countsUp 111 = .ok (.iload 5, 2) := by decide +kernel
theorem dX11_countsUp_113 : decode cX11_countsUp 113 = .ok (.iaload, 1) := by decide +kernel
theorem dX11_countsUp_114 : decode cX11_countsUp 114 = .ok (.istore 7, 2) := by decide +kernel
theorem dX11_countsUp_116 : decode cX11_countsUp 116 = .ok (.aload_n 0, 1) := by decide +kernel
theorem dX11_countsUp_117 : decode cX11_countsUp 117 = .ok (.getfield 68, 3) := by decide +kernel
theorem dX11_countsUp_120 : decode cX11_countsUp 120 = .ok (.iload 5, 2) := by decide +kernel
theorem dX11_countsUp_122 : decode cX11_countsUp 122 = .ok (.aload_n 0, 1) := by decide +kernel
theorem dX11_countsUp_123 : decode cX11_countsUp 123 = .ok (.getfield 68, 3) := by decide +kernel
theorem dX11_countsUp_126 : decode cX11_countsUp 126 = .ok (.iload 6, 2) := by decide +kernel
theorem dX11_countsUp_128 : decode cX11_countsUp 128 = .ok (.iaload, 1) := by decide +kernel
theorem dX11_countsUp_129 : decode cX11_countsUp 129 = .ok (.iastore, 1) := by decide +kernel
theorem dX11_countsUp_130 : decode cX11_countsUp 130 = .ok (.aload_n 0, 1) := by decide +kernel
theorem dX11_countsUp_131 : decode cX11_countsUp 131 = .ok (.getfield 68, 3) := by decide +kernel
theorem dX11_countsUp_134 : decode cX11_countsUp 134 = .ok (.iload 6, 2) := by decide +kernel
theorem dX11_countsUp_136 : decode cX11_countsUp 136 = .ok (.iload 7, 2) := by decide +kernel
theorem dX11_countsUp_138 : decode cX11_countsUp 138 = .ok (.iastore, 1) := by decide +kernel
theorem dX11_countsUp_139 : decode cX11_countsUp 139 = .ok (.iinc 5 1, 3) := by decide +kernel
theorem dX11_countsUp_142 : decode cX11_countsUp 142 = .ok (.iinc 6 (-1), 3) := by decide +kernel
theorem dX11_countsUp_145 : decode cX11_countsUp 145 = .ok (.goto (-45), 3) := by decide +kernel
theorem dX11_countsUp_148 : decode cX11_countsUp 148 = .ok (.iconst 1, 1) := by decide +kernel
theorem dX11_countsUp_149 : decode cX11_countsUp 149 = .ok (.ireturn, 1) := by decide +kernel
theorem bX11_countsUp_0 {G : GX} {h : mH} {Q : mO → mH → Prop} {v1 : Int32} (hi : Iv h) (K : Vw G jX11_countsUp 4 [some (.ref 83), some (.int v1), some (.int (v1 - 2)), none, none, none, none, none] [] h Q) : Vw G jX11_countsUp 0 [some (.ref 83), some (.int v1), none, none, none, none, none, none] [] h Q :=
  s_iload_n dX11_countsUp_0 rfl (s_iconst 2 dX11_countsUp_1 (by decide) (s_isub dX11_countsUp_2 (s_istore_n dX11_countsUp_3 (Nat.le_of_ble_eq_true rfl) rfl (K))))
theorem bX11_countsUp_4 {G : GX} {h : mH} {Q : mO → mH → Prop} {v1 : Int32} {v2 : Int32} (hi : Iv h) (K : (v2 < 0 → Vw G jX11_countsUp 31 [some (.ref 83), some (.int v1), some (.int v2), none, none, none, none, none] [] h Q) ∧ (¬ v2 < 0 → (vp_in v2 8 ∧ (vp_in (v2 + 1) 8 ∧ (((gI h 102 (Int32.toNatClampNeg v2)) ≤ (gI h 102 (Int32.toNatClampNeg (v2 + 1))) → Vw G jX11_countsUp 31 [some (.ref 83), some (.int v1), some (.int v2), none, none, none, none, none] [] h Q) ∧ (¬ (gI h 102 (Int32.toNatClampNeg v2)) ≤ (gI h 102 (Int32.toNatClampNeg (v2 + 1))) → Vw G jX11_countsUp 4 [some (.ref 83), some (.int v1), some (.int (v2 + (-1))), none, none, none, none, none] [] h Q)))))) : Vw G jX11_countsUp 4 [some (.ref 83), some (.int v1), some (.int v2), none, none, none, none, none] [] h Q :=
  s_iload_n dX11_countsUp_4 rfl (s_if_lt 31 dX11_countsUp_5 rfl (fun q1 => (K.1 q1)) (fun q1 => s_aload_n dX11_countsUp_8 rfl (s_getR (v := .ref 102) dX11_countsUp_9 flX11_68 rfl (hi.sh rfl rfl) (hi.rf (o := 83) (k := 38) (d := 19) rfl rfl) (s_iload_n dX11_countsUp_12 rfl (s_iaload dX11_countsUp_13 (hi.sh rfl rfl) (K.2 q1).1 (s_aload_n dX11_countsUp_14 rfl (s_getR (v := .ref 102) dX11_countsUp_15 flX11_68 rfl (hi.sh rfl rfl) (hi.rf (o := 83) (k := 38) (d := 19) rfl rfl) (s_iload_n dX11_countsUp_18 rfl (s_iconst 1 dX11_countsUp_19 (by decide) (s_iadd dX11_countsUp_20 (s_iaload dX11_countsUp_21 (hi.sh rfl rfl) (K.2 q1).2.1 (s_icmp_le 31 dX11_countsUp_22 rfl (fun q12 => ((K.2 q1).2.2.1 q12)) (fun q12 => s_iinc (-1) dX11_countsUp_25 rfl (by decide) (Nat.le_of_ble_eq_true rfl) rfl (s_goto 4 dX11_countsUp_28 rfl (((K.2 q1).2.2.2 q12))))))))))))))))
theorem bX11_countsUp_31 {G : GX} {h : mH} {Q : mO → mH → Prop} {v1 : Int32} {v2 : Int32} (hi : Iv h) (K : (0 ≤ v2 → Vw G jX11_countsUp 41 [some (.ref 83), some (.int v1), some (.int v2), some (.int (v1 - 1)), none, none, none, none] [] h Q) ∧ (¬ 0 ≤ v2 → Q (.inl (some (.int 0))) h)) : Vw G jX11_countsUp 31 [some (.ref 83), some (.int v1), some (.int v2), none, none, none, none, none] [] h Q :=
  s_iload_n dX11_countsUp_31 rfl (s_if_ge 37 dX11_countsUp_32 rfl (fun q1 => s_iload_n dX11_countsUp_37 rfl (s_iconst 1 dX11_countsUp_38 (by decide) (s_isub dX11_countsUp_39 (s_istore_n dX11_countsUp_40 (Nat.le_of_ble_eq_true rfl) rfl ((K.1 q1)))))) (fun q1 => s_iconst 0 dX11_countsUp_35 (by decide) (s_zreturn dX11_countsUp_36 rfl (by decide) (K.2 q1))))
theorem bX11_countsUp_41 {G : GX} {h : mH} {Q : mO → mH → Prop} {v1 : Int32} {v2 : Int32} {v3 : Int32} (hi : Iv h) (K : vp_in v3 8 ∧ (vp_in v2 8 ∧ (((gI h 102 (Int32.toNatClampNeg v2)) ≤ (gI h 102 (Int32.toNatClampNeg v3)) → (vp_in v2 8 ∧ (vp_in v3 8 ∧ (vp_in v2 8 ∧ (vp_in v3 8 ∧ Vw G jX11_countsUp 100 [some (.ref 83), none, none, none, none, some (.int (v2 + 1)), some (.int (v1 - 1)), none] [] (pI (pI h 102 (Int32.toNatClampNeg v2) (gI h 102 (Int32.toNatClampNeg v3))) 102 (Int32.toNatClampNeg v3) (gI h 102 (Int32.toNatClampNeg v2))) Q))))) ∧ (¬ (gI h 102 (Int32.toNatClampNeg v2)) ≤ (gI h 102 (Int32.toNatClampNeg v3)) → Vw G jX11_countsUp 41 [some (.ref 83), some (.int v1), some (.int v2), some (.int (v3 + (-1))), none, none, none, none] [] h Q)))) : Vw G jX11_countsUp 41 [some (.ref 83), some (.int v1), some (.int v2), some (.int v3), none, none, none, none] [] h Q :=
  s_aload_n dX11_countsUp_41 rfl (s_getR (v := .ref 102) dX11_countsUp_42 flX11_68 rfl (hi.sh rfl rfl) (hi.rf (o := 83) (k := 38) (d := 19) rfl rfl) (s_iload_n dX11_countsUp_45 rfl (s_iaload dX11_countsUp_46 (hi.sh rfl rfl) K.1 (s_aload_n dX11_countsUp_47 rfl (s_getR (v := .ref 102) dX11_countsUp_48 flX11_68 rfl (hi.sh rfl rfl) (hi.rf (o := 83) (k := 38) (d := 19) rfl rfl) (s_iload_n dX11_countsUp_51 rfl (s_iaload dX11_countsUp_52 (hi.sh rfl rfl) K.2.1 (s_icmp_ge 62 dX11_countsUp_53 rfl (fun q8 => s_aload_n dX11_countsUp_62 rfl (s_getR (v := .ref 102) dX11_countsUp_63 flX11_68 rfl (hi.sh rfl rfl) (hi.rf (o := 83) (k := 38) (d := 19) rfl rfl) (s_iload_n dX11_countsUp_66 rfl (s_iaload dX11_countsUp_67 (hi.sh rfl rfl) (K.2.2.1 q8).1 (s_istore dX11_countsUp_68 (Nat.le_of_ble_eq_true rfl) rfl (s_aload_n dX11_countsUp_70 rfl (s_getR (v := .ref 102) dX11_countsUp_71 flX11_68 rfl (hi.sh rfl rfl) (hi.rf (o := 83) (k := 38) (d := 19) rfl rfl) (s_iload_n dX11_countsUp_74 rfl (s_aload_n dX11_countsUp_75 rfl (s_getR (v := .ref 102) dX11_countsUp_76 flX11_68 rfl (hi.sh rfl rfl) (hi.rf (o := 83) (k := 38) (d := 19) rfl rfl) (s_iload_n dX11_countsUp_79 rfl (s_iaload dX11_countsUp_80 (hi.sh rfl rfl) (K.2.2.1 q8).2.1 (s_iastore dX11_countsUp_81 (hi.sh rfl rfl) (K.2.2.1 q8).2.2.1 (s_aload_n dX11_countsUp_82 rfl (s_getR (v := .ref 102) dX11_countsUp_83 flX11_68 rfl (hi.sh rfl rfl) (hi.rf (o := 83) (k := 38) (d := 19) rfl rfl) (s_iload_n dX11_countsUp_86 rfl (s_iload dX11_countsUp_87 rfl (s_iastore dX11_countsUp_89 (hi.sh rfl rfl) (K.2.2.1 q8).2.2.2.1 (s_iload_n dX11_countsUp_90 rfl (s_iconst 1 dX11_countsUp_91 (by decide) (s_iadd dX11_countsUp_92 (s_istore dX11_countsUp_93 (Nat.le_of_ble_eq_true rfl) rfl (s_iload_n dX11_countsUp_95 rfl (s_iconst 1 dX11_countsUp_96 (by decide) (s_isub dX11_countsUp_97 (s_istore dX11_countsUp_98 (Nat.le_of_ble_eq_true rfl) rfl (Vw.mask [true, false, false, false, false, true, true, false] ((K.2.2.1 q8).2.2.2.2)))))))))))))))))))))))))))) (fun q8 => s_iinc (-1) dX11_countsUp_56 rfl (by decide) (Nat.le_of_ble_eq_true rfl) rfl (s_goto 41 dX11_countsUp_59 rfl ((K.2.2.2 q8))))))))))))
theorem bX11_countsUp_100 {G : GX} {h : mH} {Q : mO → mH → Prop} {v5 : Int32} {v6 : Int32} (hi : Iv h) (K : (v6 ≤ v5 → Q (.inl (some (.int 1))) h) ∧ (¬ v6 ≤ v5 → (vp_in v5 8 ∧ (vp_in v6 8 ∧ (vp_in v5 8 ∧ (vp_in v6 8 ∧ Vw G jX11_countsUp 100 [some (.ref 83), none, none, none, none, some (.int (v5 + 1)), some (.int (v6 + (-1))), none] [] (pI (pI h 102 (Int32.toNatClampNeg v5) (gI h 102 (Int32.toNatClampNeg v6))) 102 (Int32.toNatClampNeg v6) (gI h 102 (Int32.toNatClampNeg v5))) Q)))))) : Vw G jX11_countsUp 100 [some (.ref 83), none, none, none, none, some (.int v5), some (.int v6), none] [] h Q :=
  s_iload dX11_countsUp_100 rfl (s_iload dX11_countsUp_102 rfl (s_icmp_ge 148 dX11_countsUp_104 rfl (fun q2 => s_iconst 1 dX11_countsUp_148 (by decide) (s_zreturn dX11_countsUp_149 rfl (by decide) (K.1 q2))) (fun q2 => s_aload_n dX11_countsUp_107 rfl (s_getR (v := .ref 102) dX11_countsUp_108 flX11_68 rfl (hi.sh rfl rfl) (hi.rf (o := 83) (k := 38) (d := 19) rfl rfl) (s_iload dX11_countsUp_111 rfl (s_iaload dX11_countsUp_113 (hi.sh rfl rfl) (K.2 q2).1 (s_istore dX11_countsUp_114 (Nat.le_of_ble_eq_true rfl) rfl (s_aload_n dX11_countsUp_116 rfl (s_getR (v := .ref 102) dX11_countsUp_117 flX11_68 rfl (hi.sh rfl rfl) (hi.rf (o := 83) (k := 38) (d := 19) rfl rfl) (s_iload dX11_countsUp_120 rfl (s_aload_n dX11_countsUp_122 rfl (s_getR (v := .ref 102) dX11_countsUp_123 flX11_68 rfl (hi.sh rfl rfl) (hi.rf (o := 83) (k := 38) (d := 19) rfl rfl) (s_iload dX11_countsUp_126 rfl (s_iaload dX11_countsUp_128 (hi.sh rfl rfl) (K.2 q2).2.1 (s_iastore dX11_countsUp_129 (hi.sh rfl rfl) (K.2 q2).2.2.1 (s_aload_n dX11_countsUp_130 rfl (s_getR (v := .ref 102) dX11_countsUp_131 flX11_68 rfl (hi.sh rfl rfl) (hi.rf (o := 83) (k := 38) (d := 19) rfl rfl) (s_iload dX11_countsUp_134 rfl (s_iload dX11_countsUp_136 rfl (s_iastore dX11_countsUp_138 (hi.sh rfl rfl) (K.2 q2).2.2.2.1 (s_iinc 1 dX11_countsUp_139 rfl (by decide) (Nat.le_of_ble_eq_true rfl) rfl (s_iinc (-1) dX11_countsUp_142 rfl (by decide) (Nat.le_of_ble_eq_true rfl) rfl (s_goto 100 dX11_countsUp_145 rfl (Vw.mask [true, false, false, false, false, true, true, false] ((K.2 q2).2.2.2.2)))))))))))))))))))))))))
theorem eX11_countsUp {G : GX} {h : mH} {Q : mO → mH → Prop} {v1 : Int32} (hi : Iv h) (K : Vw G jX11_countsUp 4 [some (.ref 83), some (.int v1), some (.int (v1 - 2)), none, none, none, none, none] [] h Q) : WM G jX11_countsUp [.ref 83, .int v1] h Q :=
  WM.body (ls := [some (.ref 83), some (.int v1), none, none, none, none, none, none]) rfl (by decide +kernel) rfl (Nat.le_of_ble_eq_true rfl) rfl ((bX11_countsUp_0 hi  K))
theorem dX11_evening_0 : decode cX11_evening 0 = .ok (.aload_n 0, 1) := by decide +kernel
theorem dX11_evening_1 : decode cX11_evening 1 = .ok (.iconst 0, 1) := by decide +kernel
theorem dX11_evening_2 : decode cX11_evening 2 = .ok (.putfield 113, 3) := by decide +kernel
theorem dX11_evening_5 : decode cX11_evening 5 = .ok (.aload_n 0, 1) := by decide +kernel
theorem dX11_evening_6 : decode cX11_evening 6 = .ok (.iload_n 1, 1) := by decide +kernel
theorem dX11_evening_7 : decode cX11_evening 7 = .ok (.ifCond .le 17, 3) := by decide +kernel
theorem dX11_evening_10 : decode cX11_evening 10 = .ok (.iload_n 1, 1) := by decide +kernel
theorem dX11_evening_11 : decode cX11_evening 11 = .ok (.iconst 1, 1) := by decide +kernel
theorem dX11_evening_12 : decode cX11_evening 12 = .ok (.aload_n 0, 1) := by decide +kernel
theorem dX11_evening_13 : decode cX11_evening 13 = .ok (.getfield 226, 3) := by decide +kernel
theorem dX11_evening_16 : decode cX11_evening 16 = .ok (.ishl, 1) := by decide +kernel
theorem dX11_evening_17 : decode cX11_evening 17 = .ok (.if_icmp .ge 7, 3) := by decide +kernel
theorem dX11_evening_20 : decode cX11_evening 20 = .ok (.iconst 1, 1) := by decide +kernel
theorem dX11_evening_21 : decode cX11_evening 21 = .ok (.goto 4, 3) := by decide +kernel
theorem dX11_evening_24 : decode cX11_evening 24 = .ok (.iconst 0, 1) := by decide +kernel
theorem dX11_evening_25 : decode cX11_evening 25 = .ok (.iconst 1, 1) := by decide +kernel
theorem dX11_evening_26 : decode cX11_evening 26 = .ok (.invokevirtual 209, 3) := by decide +kernel
theorem dX11_evening_29 : decode cX11_evening 29 = .ok (.ifCond .ne 5, 3) := by decide +kernel
theorem dX11_evening_32 : decode cX11_evening 32 = .ok (.iconst 0, 1) := by decide +kernel
theorem dX11_evening_33 : decode cX11_evening 33 = .ok (.ireturn, 1) := by decide +kernel
theorem dX11_evening_34 : decode cX11_evening 34 = .ok (.iconst 0, 1) := by decide +kernel
theorem dX11_evening_35 : decode cX11_evening 35 = .ok (.istore_n 2, 1) := by decide +kernel
theorem dX11_evening_36 : decode cX11_evening 36 = .ok (.iconst 0, 1) := by decide +kernel
theorem dX11_evening_37 : decode cX11_evening 37 = .ok (.istore_n 3, 1) := by decide +kernel
theorem dX11_evening_38 : decode cX11_evening 38 = .ok (.iload_n 3, 1) := by decide +kernel
theorem dX11_evening_39 : decode cX11_evening 39 = .ok (.aload_n 0, 1) := by decide +kernel
theorem dX11_evening_40 : decode cX11_evening 40 = .ok (.getfield 226, 3) := by decide +kernel
theorem dX11_evening_43 : decode cX11_evening 43 = .ok (.if_icmp .ge 30, 3) := by decide +kernel
theorem dX11_evening_46 : decode cX11_evening 46 = .ok (.iload_n 1, 1) := by decide +kernel
theorem dX11_evening_47 : decode cX11_evening 47 = .ok (.iload_n 3, 1) := by decide +kernel
theorem dX11_evening_48 : decode cX11_evening 48 = .ok (.ishr, 1) := by decide +kernel
theorem dX11_evening_49 : decode cX11_evening 49 = .ok (.iconst 1, 1) := by decide +kernel
theorem dX11_evening_50 : decode cX11_evening 50 = .ok (.iand, 1) := by decide +kernel
theorem dX11_evening_51 : decode cX11_evening 51 = .ok (.ifCond .ne 6, 3) := by decide +kernel
theorem dX11_evening_54 : decode cX11_evening 54 = .ok (.goto 13, 3) := by decide +kernel
theorem dX11_evening_57 : decode cX11_evening 57 = .ok (.aload_n 0, 1) := by decide +kernel
theorem dX11_evening_58 : decode cX11_evening 58 = .ok (.getfield 68, 3) := by decide +kernel
theorem dX11_evening_61 : decode cX11_evening 61 = .ok (.iload_n 2, 1) := by decide +kernel
theorem dX11_evening_62 : decode cX11_evening 62 = .ok (.iload_n 3, 1) := by decide +kernel
theorem dX11_evening_63 : decode cX11_evening 63 = .ok (.iastore, 1) := by decide +kernel
theorem dX11_evening_64 : decode cX11_evening 64 = .ok (.iinc 2 1, 3) := by decide +kernel
theorem dX11_evening_67 : decode cX11_evening 67 = .ok (.iinc 3 1, 3) := by decide +kernel
theorem dX11_evening_70 : decode cX11_evening 70 = .ok (.goto (-32), 3) := by decide +kernel
theorem dX11_evening_73 : decode cX11_evening 73 = .ok (.iconst (-1), 1) := by decide +kernel
theorem dX11_evening_74 : decode cX11_evening 74 = .ok (.istore_n 3, 1) := by decide +kernel
theorem dX11_evening_75 : decode cX11_evening 75 = .ok (.iconst 1, 1) := by decide +kernel
theorem dX11_evening_76 : decode cX11_evening 76 = .ok (.istore 4, 2) := by decide +kernel
theorem dX11_evening_78 : decode cX11_evening 78 = .ok (.iload 4, 2) := by decide +kernel
theorem dX11_evening_80 : decode cX11_evening 80 = .ok (.ifCond .eq 72, 3) := by decide +kernel
theorem dX11_evening_83 : decode cX11_evening 83 = .ok (.iconst 0, 1) := by decide +kernel
theorem dX11_evening_84 : decode cX11_evening 84 = .ok (.istore 5, 2) := by decide +kernel
theorem dX11_evening_86 : decode cX11_evening 86 = .ok (.iload 5, 2) := by decide +kernel
theorem dX11_evening_88 : decode cX11_evening 88 = .ok (.iload_n 2, 1) := by decide +kernel
theorem dX11_evening_89 : decode cX11_evening 89 = .ok (.if_icmp .ge 53, 3) := by decide +kernel
theorem dX11_evening_92 : decode cX11_evening 92 = .ok (.aload_n 0, 1) := by decide +kernel
theorem dX11_evening_93 : decode cX11_evening 93 = .ok (.iload_n 2, 1) := by decide +kernel
theorem dX11_evening_94 : decode cX11_evening 94 = .ok (.iload 5, 2) := by decide +kernel
theorem dX11_evening_96 : decode cX11_evening 96 = .ok (.invokevirtual 319, 3) := by decide +kernel
theorem dX11_evening_99 : decode cX11_evening 99 = .ok (.istore 6, 2) := by decide +kernel
theorem dX11_evening_101 : decode cX11_evening 101 = .ok (.iload_n 3, 1) := by decide +kernel
theorem dX11_evening_102 : decode cX11_evening 102 = .ok (.iconst (-1), 1) := by decide +kernel
theorem dX11_evening_103 : decode cX11_evening 103 = .ok (.if_icmp .eq 12, 3) := by decide +kernel
theorem dX11_evening_106 : decode cX11_evening 106 = .ok (.iload 6, 2) := by decide +kernel
theorem dX11_evening_108 : decode cX11_evening 108 = .ok (.iload_n 3, 1) := by decide +kernel
theorem dX11_evening_109 : decode cX11_evening 109 = .ok (.if_icmp .lt 6, 3) := by decide +kernel
theorem dX11_evening_112 : decode cX11_evening 112 = .ok (.goto 24, 3) := by decide +kernel
theorem dX11_evening_115 : decode cX11_evening 115 = .ok (.iload 6, 2) := by decide +kernel
theorem dX11_evening_117 : decode cX11_evening 117 = .ok (.istore_n 3, 1) := by decide +kernel
theorem dX11_evening_118 : decode cX11_evening 118 = .ok (.aload_n 0, 1) := by decide +kernel
theorem dX11_evening_119 : decode cX11_evening 119 = .ok (.iload 5, 2) := by decide +kernel
theorem dX11_evening_121 : decode cX11_evening 121 = .ok (.putfield 322, 3) := by decide +kernel
theorem dX11_evening_124 : decode cX11_evening 124 = .ok (.aload_n 0, 1) := by decide +kernel
theorem dX11_evening_125 : decode cX11_evening 125 = .ok (.aload_n 0, 1) := by decide +kernel
theorem dX11_evening_126 : decode cX11_evening 126 = .ok (.getfield 68, 3) := by decide +kernel
theorem dX11_evening_129 : decode cX11_evening 129 = .ok (.aload_n 0, 1) := by decide +kernel
theorem dX11_evening_130 : decode cX11_evening 130 = .ok (.getfield 71, 3) := by decide +kernel
theorem dX11_evening_133 : decode cX11_evening 133 = .ok (.invokevirtual 222, 3) := by decide +kernel
theorem dX11_evening_136 : decode cX11_evening 136 = .ok (.iinc 5 1, 3) := by decide +kernel
theorem dX11_evening_139 : decode cX11_evening 139 = .ok (.goto (-53), 3) := by decide +kernel
theorem dX11_evening_142 : decode cX11_evening 142 = .ok (.aload_n 0, 1) := by decide +kernel
theorem dX11_evening_143 : decode cX11_evening 143 = .ok (.iload_n 2, 1) := by decide +kernel
theorem dX11_evening_144 : decode cX11_evening 144 = .ok (.invokevirtual 325, 3) := by decide +kernel
theorem dX11_evening_147 : decode cX11_evening 147 = .ok (.istore 4, 2) := by decide +kernel
theorem dX11_evening_149 : decode cX11_evening 149 = .ok (.goto (-71), 3) := by decide +kernel
theorem dX11_evening_152 : decode cX11_evening 152 = .ok (.aload_n 0, 1) := by decide +kernel
theorem dX11_evening_153 : decode cX11_evening 153 = .ok (.iload_n 2, 1) := by decide +kernel
theorem dX11_evening_154 : decode cX11_evening 154 = .ok (.putfield 74, 3) := by decide +kernel
theorem dX11_evening_157 : decode cX11_evening 157 = .ok (.iload_n 3, 1) := by decide +kernel
theorem dX11_evening_158 : decode cX11_evening 158 = .ok (.ireturn, 1) := by decide +kernel
theorem bX11_evening_0 {G : GX} {h : mH} {Q : mO → mH → Prop} {v1 : Int32} (hi : Iv h) (K : (v1 ≤ 0 → WM G jX11_right [.ref 83, .int 0, .int 1] (pI h 83 0 0) (Aft G jX11_evening 26 [some (.ref 83), some (.int v1), none, none, none, none, none] [] Q)) ∧ (¬ v1 ≤ 0 → ((((1 : Int32) <<< ((gI (pI h 83 0 0) 83 30) &&& 31)) ≤ v1 → WM G jX11_right [.ref 83, .int 0, .int 1] (pI h 83 0 0) (Aft G jX11_evening 26 [some (.ref 83), some (.int v1), none, none, none, none, none] [] Q)) ∧ (¬ ((1 : Int32) <<< ((gI (pI h 83 0 0) 83 30) &&& 31)) ≤ v1 → WM G jX11_right [.ref 83, .int 1, .int 1] (pI h 83 0 0) (Aft G jX11_evening 26 [some (.ref 83), some (.int v1), none, none, none, none, none] [] Q))))) : Vw G jX11_evening 0 [some (.ref 83), some (.int v1), none, none, none, none, none] [] h Q :=
  s_aload_n dX11_evening_0 rfl (s_iconst 0 dX11_evening_1 (by decide) (s_putI dX11_evening_2 flX11_113 ff10_0 rfl (hi.sh rfl rfl) (s_aload_n dX11_evening_5 rfl (s_iload_n dX11_evening_6 rfl (s_if_le 24 dX11_evening_7 rfl (fun q5 => s_iconst 0 dX11_evening_24 (by decide) (s_iconst 1 dX11_evening_25 (by decide) (s_callV (As := [.int 0, .int 1]) dX11_evening_26 rfl lvX11_209 ⟨Nat.le_of_ble_eq_true rfl, Nat.le_of_ble_eq_true rfl⟩ (hi.sh rfl rfl) ⟨_, _, by decide, rfl⟩ rfl (Nat.le_of_ble_eq_true rfl) ((K.1 q5))))) (fun q5 => s_iload_n dX11_evening_10 rfl (s_iconst 1 dX11_evening_11 (by decide) (s_aload_n dX11_evening_12 rfl (s_getI dX11_evening_13 flX11_226 (Or.inl rfl) (hi.sh rfl rfl) (s_ishl dX11_evening_16 (s_icmp_ge 24 dX11_evening_17 rfl (fun q11 => s_iconst 0 dX11_evening_24 (by decide) (s_iconst 1 dX11_evening_25 (by decide) (s_callV (As := [.int 0, .int 1]) dX11_evening_26 rfl lvX11_209 ⟨Nat.le_of_ble_eq_true rfl, Nat.le_of_ble_eq_true rfl⟩ (hi.sh rfl rfl) ⟨_, _, by decide, rfl⟩ rfl (Nat.le_of_ble_eq_true rfl) (((K.2 q5).1 q11))))) (fun q11 => s_iconst 1 dX11_evening_20 (by decide) (s_goto 25 dX11_evening_21 rfl (s_iconst 1 dX11_evening_25 (by decide) (s_callV (As := [.int 1, .int 1]) dX11_evening_26 rfl lvX11_209 ⟨Nat.le_of_ble_eq_true rfl, Nat.le_of_ble_eq_true rfl⟩ (hi.sh rfl rfl) ⟨_, _, by decide, rfl⟩ rfl (Nat.le_of_ble_eq_true rfl) (((K.2 q5).2 q11)))))))))))))))))
theorem bX11_evening_29 {G : GX} {h : mH} {Q : mO → mH → Prop} {v1 : Int32} {vs0 : Int32} (hi : Iv h) (K : (¬ vs0 = 0 → Vw G jX11_evening 38 [some (.ref 83), some (.int v1), some (.int 0), some (.int 0), none, none, none] [] h Q) ∧ (vs0 = 0 → Q (.inl (some (.int 0))) h)) : Vw G jX11_evening 29 [some (.ref 83), some (.int v1), none, none, none, none, none] [.int vs0] h Q :=
  s_if_ne 34 dX11_evening_29 rfl (fun q0 => s_iconst 0 dX11_evening_34 (by decide) (s_istore_n dX11_evening_35 (Nat.le_of_ble_eq_true rfl) rfl (s_iconst 0 dX11_evening_36 (by decide) (s_istore_n dX11_evening_37 (Nat.le_of_ble_eq_true rfl) rfl ((K.1 q0)))))) (fun q0 => s_iconst 0 dX11_evening_32 (by decide) (s_ireturn dX11_evening_33 rfl (K.2 q0)))
theorem bX11_evening_38 {G : GX} {h : mH} {Q : mO → mH → Prop} {v1 : Int32} {v2 : Int32} {v3 : Int32} (hi : Iv h) (K : ((gI h 83 30) ≤ v3 → Vw G jX11_evening 78 [some (.ref 83), none, some (.int v2), some (.int (-1)), some (.int 1), none, none] [] h Q) ∧ (¬ (gI h 83 30) ≤ v3 → ((¬ ((v1 >>> (v3 &&& 31)) &&& (1 : Int32)) = 0 → (vp_in v2 8 ∧ Vw G jX11_evening 67 [some (.ref 83), some (.int v1), some (.int (v2 + 1)), some (.int v3), none, none, none] [] (pI h 102 (Int32.toNatClampNeg v2) v3) Q)) ∧ (((v1 >>> (v3 &&& 31)) &&& (1 : Int32)) = 0 → Vw G jX11_evening 67 [some (.ref 83), some (.int v1), some (.int v2), some (.int v3), none, none, none] [] h Q)))) : Vw G jX11_evening 38 [some (.ref 83), some (.int v1), some (.int v2), some (.int v3), none, none, none] [] h Q :=
  s_iload_n dX11_evening_38 rfl (s_aload_n dX11_evening_39 rfl (s_getI dX11_evening_40 flX11_226 (Or.inl rfl) (hi.sh rfl rfl) (s_icmp_ge 73 dX11_evening_43 rfl (fun q3 => s_iconst (-1) dX11_evening_73 (by decide) (s_istore_n dX11_evening_74 (Nat.le_of_ble_eq_true rfl) rfl (s_iconst 1 dX11_evening_75 (by decide) (s_istore dX11_evening_76 (Nat.le_of_ble_eq_true rfl) rfl (Vw.mask [true, false, true, true, true, false, false] ((K.1 q3))))))) (fun q3 => s_iload_n dX11_evening_46 rfl (s_iload_n dX11_evening_47 rfl (s_ishr dX11_evening_48 (s_iconst 1 dX11_evening_49 (by decide) (s_iand dX11_evening_50 (s_if_ne 57 dX11_evening_51 rfl (fun q9 => s_aload_n dX11_evening_57 rfl (s_getR (v := .ref 102) dX11_evening_58 flX11_68 rfl (hi.sh rfl rfl) (hi.rf (o := 83) (k := 38) (d := 19) rfl rfl) (s_iload_n dX11_evening_61 rfl (s_iload_n dX11_evening_62 rfl (s_iastore dX11_evening_63 (hi.sh rfl rfl) ((K.2 q3).1 q9).1 (s_iinc 1 dX11_evening_64 rfl (by decide) (Nat.le_of_ble_eq_true rfl) rfl (((K.2 q3).1 q9).2))))))) (fun q9 => s_goto 67 dX11_evening_54 rfl (((K.2 q3).2 q9))))))))))))
theorem bX11_evening_67 {G : GX} {h : mH} {Q : mO → mH → Prop} {v1 : Int32} {v2 : Int32} {v3 : Int32} (hi : Iv h) (K : Vw G jX11_evening 38 [some (.ref 83), some (.int v1), some (.int v2), some (.int (v3 + 1)), none, none, none] [] h Q) : Vw G jX11_evening 67 [some (.ref 83), some (.int v1), some (.int v2), some (.int v3), none, none, none] [] h Q :=
  s_iinc 1 dX11_evening_67 rfl (by decide) (Nat.le_of_ble_eq_true rfl) rfl (s_goto 38 dX11_evening_70 rfl (K))
theorem bX11_evening_78 {G : GX} {h : mH} {Q : mO → mH → Prop} {v2 : Int32} {v3 : Int32} {v4 : Int32} (hi : Iv h) (K : (v4 = 0 → Q (.inl (some (.int v3))) (pI h 83 40 v2)) ∧ (¬ v4 = 0 → Vw G jX11_evening 86 [some (.ref 83), none, some (.int v2), some (.int v3), none, some (.int 0), none] [] h Q)) : Vw G jX11_evening 78 [some (.ref 83), none, some (.int v2), some (.int v3), some (.int v4), none, none] [] h Q :=
  s_iload dX11_evening_78 rfl (s_if_eq 152 dX11_evening_80 rfl (fun q1 => s_aload_n dX11_evening_152 rfl (s_iload_n dX11_evening_153 rfl (s_putI dX11_evening_154 flX11_74 ff10_40 rfl (hi.sh rfl rfl) (s_iload_n dX11_evening_157 rfl (s_ireturn dX11_evening_158 rfl (K.1 q1)))))) (fun q1 => s_iconst 0 dX11_evening_83 (by decide) (s_istore dX11_evening_84 (Nat.le_of_ble_eq_true rfl) rfl (Vw.mask [true, false, true, true, false, true, false] ((K.2 q1))))))
theorem bX11_evening_86 {G : GX} {h : mH} {Q : mO → mH → Prop} {v2 : Int32} {v3 : Int32} {v5 : Int32} (hi : Iv h) (K : (v2 ≤ v5 → WM G jX11_countsUp [.ref 83, .int v2] h (Aft G jX11_evening 144 [some (.ref 83), none, some (.int v2), some (.int v3), none, none, none] [] Q)) ∧ (¬ v2 ≤ v5 → WM G jX11_allMoved [.ref 83, .int v2, .int v5] h (Aft G jX11_evening 96 [some (.ref 83), none, some (.int v2), some (.int v3), none, some (.int v5), none] [] Q))) : Vw G jX11_evening 86 [some (.ref 83), none, some (.int v2), some (.int v3), none, some (.int v5), none] [] h Q :=
  s_iload dX11_evening_86 rfl (s_iload_n dX11_evening_88 rfl (s_icmp_ge 142 dX11_evening_89 rfl (fun q2 => s_aload_n dX11_evening_142 rfl (s_iload_n dX11_evening_143 rfl (Vw.mask [true, false, true, true, false, false, false] (s_callV (As := [.int v2]) dX11_evening_144 rfl lvX11_325 ⟨Nat.le_of_ble_eq_true rfl, Nat.le_of_ble_eq_true rfl⟩ (hi.sh rfl rfl) ⟨_, _, by decide, rfl⟩ rfl (Nat.le_of_ble_eq_true rfl) ((K.1 q2)))))) (fun q2 => s_aload_n dX11_evening_92 rfl (s_iload_n dX11_evening_93 rfl (s_iload dX11_evening_94 rfl (s_callV (As := [.int v2, .int v5]) dX11_evening_96 rfl lvX11_319 ⟨Nat.le_of_ble_eq_true rfl, Nat.le_of_ble_eq_true rfl⟩ (hi.sh rfl rfl) ⟨_, _, by decide, rfl⟩ rfl (Nat.le_of_ble_eq_true rfl) ((K.2 q2))))))))
theorem bX11_evening_99 {G : GX} {h : mH} {Q : mO → mH → Prop} {v2 : Int32} {v3 : Int32} {v5 : Int32} {vs0 : Int32} (hi : Iv h) (K : (v3 = (-1) → Vw G jX11_evening 115 [some (.ref 83), none, some (.int v2), none, none, some (.int v5), some (.int vs0)] [] h Q) ∧ (¬ v3 = (-1) → ((vs0 < v3 → Vw G jX11_evening 115 [some (.ref 83), none, some (.int v2), none, none, some (.int v5), some (.int vs0)] [] h Q) ∧ (¬ vs0 < v3 → Vw G jX11_evening 136 [some (.ref 83), none, some (.int v2), some (.int v3), none, some (.int v5), none] [] h Q)))) : Vw G jX11_evening 99 [some (.ref 83), none, some (.int v2), some (.int v3), none, some (.int v5), none] [.int vs0] h Q :=
  s_istore dX11_evening_99 (Nat.le_of_ble_eq_true rfl) rfl (s_iload_n dX11_evening_101 rfl (s_iconst (-1) dX11_evening_102 (by decide) (s_icmp_eq 115 dX11_evening_103 rfl (fun q3 => Vw.mask [true, false, true, false, false, true, true] ((K.1 q3))) (fun q3 => s_iload dX11_evening_106 rfl (s_iload_n dX11_evening_108 rfl (s_icmp_lt 115 dX11_evening_109 rfl (fun q6 => Vw.mask [true, false, true, false, false, true, true] (((K.2 q3).1 q6))) (fun q6 => s_goto 136 dX11_evening_112 rfl (Vw.mask [true, false, true, true, false, true, false] (((K.2 q3).2 q6))))))))))
theorem bX11_evening_115 {G : GX} {h : mH} {Q : mO → mH → Prop} {v2 : Int32} {v5 : Int32} {v6 : Int32} (hi : Iv h) (K : WM G jX11_copies [.ref 83, .ref 102, .ref 103] (pI h 83 41 v5) (Aft G jX11_evening 133 [some (.ref 83), none, some (.int v2), some (.int v6), none, some (.int v5), none] [] Q)) : Vw G jX11_evening 115 [some (.ref 83), none, some (.int v2), none, none, some (.int v5), some (.int v6)] [] h Q :=
  s_iload dX11_evening_115 rfl (s_istore_n dX11_evening_117 (Nat.le_of_ble_eq_true rfl) rfl (s_aload_n dX11_evening_118 rfl (s_iload dX11_evening_119 rfl (s_putI dX11_evening_121 flX11_322 ff10_41 rfl (hi.sh rfl rfl) (s_aload_n dX11_evening_124 rfl (s_aload_n dX11_evening_125 rfl (s_getR (v := .ref 102) dX11_evening_126 flX11_68 rfl (hi.sh rfl rfl) (hi.rf (o := 83) (k := 38) (d := 19) rfl rfl) (s_aload_n dX11_evening_129 rfl (s_getR (v := .ref 103) dX11_evening_130 flX11_71 rfl (hi.sh rfl rfl) (hi.rf (o := 83) (k := 39) (d := 20) rfl rfl) (Vw.mask [true, false, true, true, false, true, false] (s_callV (As := [.ref 102, .ref 103]) dX11_evening_133 rfl lvX11_222 ⟨Nat.le_of_ble_eq_true rfl, Nat.le_of_ble_eq_true rfl⟩ (hi.sh rfl rfl) ⟨_, _, by decide, rfl⟩ rfl (Nat.le_of_ble_eq_true rfl) (K))))))))))))
theorem bX11_evening_136 {G : GX} {h : mH} {Q : mO → mH → Prop} {v2 : Int32} {v3 : Int32} {v5 : Int32} (hi : Iv h) (K : Vw G jX11_evening 86 [some (.ref 83), none, some (.int v2), some (.int v3), none, some (.int (v5 + 1)), none] [] h Q) : Vw G jX11_evening 136 [some (.ref 83), none, some (.int v2), some (.int v3), none, some (.int v5), none] [] h Q :=
  s_iinc 1 dX11_evening_136 rfl (by decide) (Nat.le_of_ble_eq_true rfl) rfl (s_goto 86 dX11_evening_139 rfl (K))
theorem bX11_evening_147 {G : GX} {h : mH} {Q : mO → mH → Prop} {v2 : Int32} {v3 : Int32} {vs0 : Int32} (hi : Iv h) (K : Vw G jX11_evening 78 [some (.ref 83), none, some (.int v2), some (.int v3), some (.int vs0), none, none] [] h Q) : Vw G jX11_evening 147 [some (.ref 83), none, some (.int v2), some (.int v3), none, none, none] [.int vs0] h Q :=
  s_istore dX11_evening_147 (Nat.le_of_ble_eq_true rfl) rfl (s_goto 78 dX11_evening_149 rfl (K))
theorem eX11_evening {G : GX} {h : mH} {Q : mO → mH → Prop} {v1 : Int32} (hi : Iv h) (K : (v1 ≤ 0 → WM G jX11_right [.ref 83, .int 0, .int 1] (pI h 83 0 0) (Aft G jX11_evening 26 [some (.ref 83), some (.int v1), none, none, none, none, none] [] Q)) ∧ (¬ v1 ≤ 0 → ((((1 : Int32) <<< ((gI (pI h 83 0 0) 83 30) &&& 31)) ≤ v1 → WM G jX11_right [.ref 83, .int 0, .int 1] (pI h 83 0 0) (Aft G jX11_evening 26 [some (.ref 83), some (.int v1), none, none, none, none, none] [] Q)) ∧ (¬ ((1 : Int32) <<< ((gI (pI h 83 0 0) 83 30) &&& 31)) ≤ v1 → WM G jX11_right [.ref 83, .int 1, .int 1] (pI h 83 0 0) (Aft G jX11_evening 26 [some (.ref 83), some (.int v1), none, none, none, none, none] [] Q))))) : WM G jX11_evening [.ref 83, .int v1] h Q :=
  WM.body (ls := [some (.ref 83), some (.int v1), none, none, none, none, none]) rfl (by decide +kernel) rfl (Nat.le_of_ble_eq_true rfl) rfl ((bX11_evening_0 hi  K))
theorem dX11_drawing_0 : decode cX11_drawing 0 = .ok (.aload_n 0, 1) := by decide +kernel
theorem dX11_drawing_1 : decode cX11_drawing 1 = .ok (.iconst 0, 1) := by decide +kernel
theorem dX11_drawing_2 : decode cX11_drawing 2 = .ok (.putfield 113, 3) := by decide +kernel
theorem dX11_drawing_5 : decode cX11_drawing 5 = .ok (.aload_n 0, 1) := by decide +kernel
theorem dX11_drawing_6 : decode cX11_drawing 6 = .ok (.aload_n 0, 1) := by decide +kernel
theorem dX11_drawing_7 : decode cX11_drawing 7 = .ok (.getfield 74, 3) := by decide +kernel
theorem dX11_drawing_10 : decode cX11_drawing 10 = .ok (.iconst (-1), 1) := by decide +kernel
theorem dX11_drawing_11 : decode cX11_drawing 11 = .ok (.if_icmp .eq 20, 3) := by decide +kernel
theorem dX11_drawing_14 : decode cX11_drawing 14 = .ok (.iload_n 1, 1) := by decide +kernel
theorem dX11_drawing_15 : decode cX11_drawing 15 = .ok (.iconst (-1), 1) := by decide +kernel
theorem dX11_drawing_16 : decode cX11_drawing 16 = .ok (.if_icmp .lt 15, 3) := by decide +kernel
theorem dX11_drawing_19 : decode cX11_drawing 19 = .ok (.iload_n 1, 1) := by decide +kernel
theorem dX11_drawing_20 : decode cX11_drawing 20 = .ok (.aload_n 0, 1) := by decide +kernel
theorem dX11_drawing_21 : decode cX11_drawing 21 = .ok (.getfield 74, 3) := by decide +kernel
theorem dX11_drawing_24 : decode cX11_drawing 24 = .ok (.if_icmp .ge 7, 3) := by decide +kernel
theorem dX11_drawing_27 : decode cX11_drawing 27 = .ok (.iconst 1, 1) := by decide +kernel
theorem dX11_drawing_28 : decode cX11_drawing 28 = .ok (.goto 4, 3) := by decide +kernel
theorem dX11_drawing_31 : decode cX11_drawing 31 = .ok (.iconst 0, 1) := by decide +kernel
theorem dX11_drawing_32 : decode cX11_drawing 32 = .ok (.iconst 1, 1) := by decide +kernel
theorem dX11_drawing_33 : decode cX11_drawing 33 = .ok (.invokevirtual 209, 3) := by decide +kernel
theorem dX11_drawing_36 : decode cX11_drawing 36 = .ok (.ifCond .ne 5, 3) := by decide +kernel
theorem dX11_drawing_39 : decode cX11_drawing 39 = .ok (.iconst 0, 1) := by decide +kernel
theorem dX11_drawing_40 : decode cX11_drawing 40 = .ok (.ireturn, 1) := by decide +kernel
theorem dX11_drawing_41 : decode cX11_drawing 41 = .ok (.iload_n 1, 1) := by decide +kernel
theorem dX11_drawing_42 : decode cX11_drawing 42 = .ok (.iconst (-1), 1) := by decide +kernel
theorem dX11_drawing_43 : decode cX11_drawing 43 = .ok (.if_icmp .ne 10, 3) := by decide +kernel
theorem dX11_drawing_46 : decode cX11_drawing 46 = .ok (.aload_n 0, 1) := by decide +kernel
theorem dX11_drawing_47 : decode cX11_drawing 47 = .ok (.getfield 322, 3) := by decide +kernel
theorem dX11_drawing_50 : decode cX11_drawing 50 = .ok (.goto 9, 3) := by decide +kernel
theorem dX11_drawing_53 : decode cX11_drawing 53 = .ok (.aload_n 0, 1) := by decide +kernel
theorem dX11_drawing_54 : decode cX11_drawing 54 = .ok (.getfield 71, 3) := by decide +kernel
theorem dX11_drawing_57 : decode cX11_drawing 57 = .ok (.iload_n 1, 1) := by decide +kernel
theorem dX11_drawing_58 : decode cX11_drawing 58 = .ok (.iaload, 1) := by decide +kernel
theorem dX11_drawing_59 : decode cX11_drawing 59 = .ok (.ireturn, 1) := by decide +kernel
theorem bX11_drawing_0 {G : GX} {h : mH} {Q : mO → mH → Prop} {v1 : Int32} (hi : Iv h) (K : ((gI (pI h 83 0 0) 83 40) = (-1) → WM G jX11_right [.ref 83, .int 0, .int 1] (pI h 83 0 0) (Aft G jX11_drawing 33 [some (.ref 83), some (.int v1)] [] Q)) ∧ (¬ (gI (pI h 83 0 0) 83 40) = (-1) → ((v1 < (-1) → WM G jX11_right [.ref 83, .int 0, .int 1] (pI h 83 0 0) (Aft G jX11_drawing 33 [some (.ref 83), some (.int v1)] [] Q)) ∧ (¬ v1 < (-1) → (((gI (pI h 83 0 0) 83 40) ≤ v1 → WM G jX11_right [.ref 83, .int 0, .int 1] (pI h 83 0 0) (Aft G jX11_drawing 33 [some (.ref 83), some (.int v1)] [] Q)) ∧ (¬ (gI (pI h 83 0 0) 83 40) ≤ v1 → WM G jX11_right [.ref 83, .int 1, .int 1] (pI h 83 0 0) (Aft G jX11_drawing 33 [some (.ref 83), some (.int v1)] [] Q))))))) : Vw G jX11_drawing 0 [some (.ref 83), some (.int v1)] [] h Q :=
  s_aload_n dX11_drawing_0 rfl (s_iconst 0 dX11_drawing_1 (by decide) (s_putI dX11_drawing_2 flX11_113 ff10_0 rfl (hi.sh rfl rfl) (s_aload_n dX11_drawing_5 rfl (s_aload_n dX11_drawing_6 rfl (s_getI dX11_drawing_7 flX11_74 (Or.inl rfl) (hi.sh rfl rfl) (s_iconst (-1) dX11_drawing_10 (by decide) (s_icmp_eq 31 dX11_drawing_11 rfl (fun q7 => s_iconst 0 dX11_drawing_31 (by decide) (s_iconst 1 dX11_drawing_32 (by decide) (s_callV (As := [.int 0, .int 1]) dX11_drawing_33 rfl lvX11_209 ⟨Nat.le_of_ble_eq_true rfl, Nat.le_of_ble_eq_true rfl⟩ (hi.sh rfl rfl) ⟨_, _, by decide, rfl⟩ rfl (Nat.le_of_ble_eq_true rfl) ((K.1 q7))))) (fun q7 => s_iload_n dX11_drawing_14 rfl (s_iconst (-1) dX11_drawing_15 (by decide) (s_icmp_lt 31 dX11_drawing_16 rfl (fun q10 => s_iconst 0 dX11_drawing_31 (by decide) (s_iconst 1 dX11_drawing_32 (by decide) (s_callV (As := [.int 0, .int 1]) dX11_drawing_33 rfl lvX11_209 ⟨Nat.le_of_ble_eq_true rfl, Nat.le_of_ble_eq_true rfl⟩ (hi.sh rfl rfl) ⟨_, _, by decide, rfl⟩ rfl (Nat.le_of_ble_eq_true rfl) (((K.2 q7).1 q10))))) (fun q10 => s_iload_n dX11_drawing_19 rfl (s_aload_n dX11_drawing_20 rfl (s_getI dX11_drawing_21 flX11_74 (Or.inl rfl) (hi.sh rfl rfl) (s_icmp_ge 31 dX11_drawing_24 rfl (fun q14 => s_iconst 0 dX11_drawing_31 (by decide) (s_iconst 1 dX11_drawing_32 (by decide) (s_callV (As := [.int 0, .int 1]) dX11_drawing_33 rfl lvX11_209 ⟨Nat.le_of_ble_eq_true rfl, Nat.le_of_ble_eq_true rfl⟩ (hi.sh rfl rfl) ⟨_, _, by decide, rfl⟩ rfl (Nat.le_of_ble_eq_true rfl) ((((K.2 q7).2 q10).1 q14))))) (fun q14 => s_iconst 1 dX11_drawing_27 (by decide) (s_goto 32 dX11_drawing_28 rfl (s_iconst 1 dX11_drawing_32 (by decide) (s_callV (As := [.int 1, .int 1]) dX11_drawing_33 rfl lvX11_209 ⟨Nat.le_of_ble_eq_true rfl, Nat.le_of_ble_eq_true rfl⟩ (hi.sh rfl rfl) ⟨_, _, by decide, rfl⟩ rfl (Nat.le_of_ble_eq_true rfl) ((((K.2 q7).2 q10).2 q14))))))))))))))))))))
theorem bX11_drawing_36 {G : GX} {h : mH} {Q : mO → mH → Prop} {v1 : Int32} {vs0 : Int32} (hi : Iv h) (K : (¬ vs0 = 0 → ((¬ v1 = (-1) → (vp_in v1 8 ∧ Q (.inl (some (.int (gI h 103 (Int32.toNatClampNeg v1))))) h)) ∧ (v1 = (-1) → Q (.inl (some (.int (gI h 83 41)))) h))) ∧ (vs0 = 0 → Q (.inl (some (.int 0))) h)) : Vw G jX11_drawing 36 [some (.ref 83), some (.int v1)] [.int vs0] h Q :=
  s_if_ne 41 dX11_drawing_36 rfl (fun q0 => s_iload_n dX11_drawing_41 rfl (s_iconst (-1) dX11_drawing_42 (by decide) (s_icmp_ne 53 dX11_drawing_43 rfl (fun q3 => s_aload_n dX11_drawing_53 rfl (s_getR (v := .ref 103) dX11_drawing_54 flX11_71 rfl (hi.sh rfl rfl) (hi.rf (o := 83) (k := 39) (d := 20) rfl rfl) (s_iload_n dX11_drawing_57 rfl (s_iaload dX11_drawing_58 (hi.sh rfl rfl) ((K.1 q0).1 q3).1 (s_ireturn dX11_drawing_59 rfl ((K.1 q0).1 q3).2))))) (fun q3 => s_aload_n dX11_drawing_46 rfl (s_getI dX11_drawing_47 flX11_322 (Or.inl rfl) (hi.sh rfl rfl) (s_goto 59 dX11_drawing_50 rfl (s_ireturn dX11_drawing_59 rfl ((K.1 q0).2 q3)))))))) (fun q0 => s_iconst 0 dX11_drawing_39 (by decide) (s_ireturn dX11_drawing_40 rfl (K.2 q0)))
theorem eX11_drawing {G : GX} {h : mH} {Q : mO → mH → Prop} {v1 : Int32} (hi : Iv h) (K : ((gI (pI h 83 0 0) 83 40) = (-1) → WM G jX11_right [.ref 83, .int 0, .int 1] (pI h 83 0 0) (Aft G jX11_drawing 33 [some (.ref 83), some (.int v1)] [] Q)) ∧ (¬ (gI (pI h 83 0 0) 83 40) = (-1) → ((v1 < (-1) → WM G jX11_right [.ref 83, .int 0, .int 1] (pI h 83 0 0) (Aft G jX11_drawing 33 [some (.ref 83), some (.int v1)] [] Q)) ∧ (¬ v1 < (-1) → (((gI (pI h 83 0 0) 83 40) ≤ v1 → WM G jX11_right [.ref 83, .int 0, .int 1] (pI h 83 0 0) (Aft G jX11_drawing 33 [some (.ref 83), some (.int v1)] [] Q)) ∧ (¬ (gI (pI h 83 0 0) 83 40) ≤ v1 → WM G jX11_right [.ref 83, .int 1, .int 1] (pI h 83 0 0) (Aft G jX11_drawing 33 [some (.ref 83), some (.int v1)] [] Q))))))) : WM G jX11_drawing [.ref 83, .int v1] h Q :=
  WM.body (ls := [some (.ref 83), some (.int v1)]) rfl (by decide +kernel) rfl (Nat.le_of_ble_eq_true rfl) rfl ((bX11_drawing_0 hi  K))
theorem dX11_puts_0 : decode cX11_puts 0 = .ok (.aload_n 0, 1) := by decide +kernel
theorem dX11_puts_1 : decode cX11_puts 1 = .ok (.getfield 80, 3) := by decide +kernel
theorem dX11_puts_4 : decode cX11_puts 4 = .ok (.aload_n 0, 1) := by decide +kernel
theorem dX11_puts_5 : decode cX11_puts 5 = .ok (.getfield 328, 3) := by decide +kernel
theorem dX11_puts_8 : decode cX11_puts 8 = .ok (.iload_n 1, 1) := by decide +kernel
theorem dX11_puts_9 : decode cX11_puts 9 = .ok (.iastore, 1) := by decide +kernel
theorem dX11_puts_10 : decode cX11_puts 10 = .ok (.aload_n 0, 1) := by decide +kernel
theorem dX11_puts_11 : decode cX11_puts 11 = .ok (.dup, 1) := by decide +kernel
theorem dX11_puts_12 : decode cX11_puts 12 = .ok (.getfield 328, 3) := by decide +kernel
theorem dX11_puts_15 : decode cX11_puts 15 = .ok (.iconst 1, 1) := by decide +kernel
theorem dX11_puts_16 : decode cX11_puts 16 = .ok (.iadd, 1) := by decide +kernel
theorem dX11_puts_17 : decode cX11_puts 17 = .ok (.putfield 328, 3) := by decide +kernel
theorem dX11_puts_20 : decode cX11_puts 20 = .ok (.return_, 1) := by decide +kernel
theorem bX11_puts_0 {G : GX} {h : mH} {Q : mO → mH → Prop} {v1 : Int32} (hi : Iv h) (K : vp_in (gI h 83 47) 600 ∧ Q (.inl none) (pI (pI h 105 (Int32.toNatClampNeg (gI h 83 47)) v1) 83 47 ((gI (pI h 105 (Int32.toNatClampNeg (gI h 83 47)) v1) 83 47) + 1))) : Vw G jX11_puts 0 [some (.ref 83), some (.int v1)] [] h Q :=
  s_aload_n dX11_puts_0 rfl (s_getR (v := .ref 105) dX11_puts_1 flX11_80 rfl (hi.sh rfl rfl) (hi.rf (o := 83) (k := 43) (d := 22) rfl rfl) (s_aload_n dX11_puts_4 rfl (s_getI dX11_puts_5 flX11_328 (Or.inl rfl) (hi.sh rfl rfl) (s_iload_n dX11_puts_8 rfl (s_iastore dX11_puts_9 (hi.sh rfl rfl) K.1 (s_aload_n dX11_puts_10 rfl (s_dupr dX11_puts_11 (s_getI dX11_puts_12 flX11_328 (Or.inl rfl) (hi.sh rfl rfl) (s_iconst 1 dX11_puts_15 (by decide) (s_iadd dX11_puts_16 (s_putI dX11_puts_17 flX11_328 ff10_47 rfl (hi.sh rfl rfl) (s_return dX11_puts_20 rfl K.2))))))))))))
theorem eX11_puts {G : GX} {h : mH} {Q : mO → mH → Prop} {v1 : Int32} (hi : Iv h) (K : vp_in (gI h 83 47) 600 ∧ Q (.inl none) (pI (pI h 105 (Int32.toNatClampNeg (gI h 83 47)) v1) 83 47 ((gI (pI h 105 (Int32.toNatClampNeg (gI h 83 47)) v1) 83 47) + 1))) : WM G jX11_puts [.ref 83, .int v1] h Q :=
  WM.body (ls := [some (.ref 83), some (.int v1)]) rfl (by decide +kernel) rfl (Nat.le_of_ble_eq_true rfl) rfl ((bX11_puts_0 hi  K))
theorem dX11_opens_0 : decode cX11_opens 0 = .ok (.aload_n 0, 1) := by decide +kernel
theorem dX11_opens_1 : decode cX11_opens 1 = .ok (.aload_n 0, 1) := by decide +kernel
theorem dX11_opens_2 : decode cX11_opens 2 = .ok (.bipush 40, 2) := by decide +kernel
theorem dX11_opens_4 : decode cX11_opens 4 = .ok (.invokevirtual 331, 3) := by decide +kernel
theorem dX11_opens_7 : decode cX11_opens 7 = .ok (.invokevirtual 192, 3) := by decide +kernel
theorem dX11_opens_10 : decode cX11_opens 10 = .ok (.aload_n 0, 1) := by decide +kernel
theorem dX11_opens_11 : decode cX11_opens 11 = .ok (.getfield 83, 3) := by decide +kernel
theorem dX11_opens_14 : decode cX11_opens 14 = .ok (.aload_n 0, 1) := by decide +kernel
theorem dX11_opens_15 : decode cX11_opens 15 = .ok (.getfield 334, 3) := by decide +kernel
theorem dX11_opens_18 : decode cX11_opens 18 = .ok (.iload_n 1, 1) := by decide +kernel
theorem dX11_opens_19 : decode cX11_opens 19 = .ok (.iastore, 1) := by decide +kernel
theorem dX11_opens_20 : decode cX11_opens 20 = .ok (.aload_n 0, 1) := by decide +kernel
theorem dX11_opens_21 : decode cX11_opens 21 = .ok (.getfield 86, 3) := by decide +kernel
theorem dX11_opens_24 : decode cX11_opens 24 = .ok (.aload_n 0, 1) := by decide +kernel
theorem dX11_opens_25 : decode cX11_opens 25 = .ok (.getfield 334, 3) := by decide +kernel
theorem dX11_opens_28 : decode cX11_opens 28 = .ok (.iload_n 2, 1) := by decide +kernel
theorem dX11_opens_29 : decode cX11_opens 29 = .ok (.iastore, 1) := by decide +kernel
theorem dX11_opens_30 : decode cX11_opens 30 = .ok (.aload_n 0, 1) := by decide +kernel
theorem dX11_opens_31 : decode cX11_opens 31 = .ok (.dup, 1) := by decide +kernel
theorem dX11_opens_32 : decode cX11_opens 32 = .ok (.getfield 334, 3) := by decide +kernel
theorem dX11_opens_35 : decode cX11_opens 35 = .ok (.iconst 1, 1) := by decide +kernel
theorem dX11_opens_36 : decode cX11_opens 36 = .ok (.iadd, 1) := by decide +kernel
theorem dX11_opens_37 : decode cX11_opens 37 = .ok (.putfield 334, 3) := by decide +kernel
theorem dX11_opens_40 : decode cX11_opens 40 = .ok (.return_, 1) := by decide +kernel
theorem bX11_opens_0 {G : GX} {h : mH} {Q : mO → mH → Prop} {v1 : Int32} {v2 : Int32} (hi : Iv h) (K : WM G jX11_need [.ref 83, .int (fX11_isSign h 40)] h (Aft G jX11_opens 7 [some (.ref 83), some (.int v1), some (.int v2)] [] Q)) : Vw G jX11_opens 0 [some (.ref 83), some (.int v1), some (.int v2)] [] h Q :=
  s_aload_n dX11_opens_0 rfl (s_aload_n dX11_opens_1 rfl (s_bipush 40 dX11_opens_2 (by decide) (s_callV (As := [.int 40]) dX11_opens_4 rfl lvX11_331 ⟨Nat.le_of_ble_eq_true rfl, Nat.le_of_ble_eq_true rfl⟩ (hi.sh rfl rfl) ⟨_, _, by decide, rfl⟩ rfl (Nat.le_of_ble_eq_true rfl) (mX11_isSign hi   (s_callV (As := [.int (fX11_isSign h 40)]) dX11_opens_7 rfl lvX11_192 ⟨Nat.le_of_ble_eq_true rfl, Nat.le_of_ble_eq_true rfl⟩ (hi.sh rfl rfl) ⟨_, _, by decide, rfl⟩ rfl (Nat.le_of_ble_eq_true rfl) (K))))))
theorem bX11_opens_10 {G : GX} {h : mH} {Q : mO → mH → Prop} {v1 : Int32} {v2 : Int32} (hi : Iv h) (K : vp_in (gI h 83 48) 5 ∧ (vp_in (gI (pI h 106 (Int32.toNatClampNeg (gI h 83 48)) v1) 83 48) 5 ∧ Q (.inl none) (pI (pI (pI h 106 (Int32.toNatClampNeg (gI h 83 48)) v1) 107 (Int32.toNatClampNeg (gI (pI h 106 (Int32.toNatClampNeg (gI h 83 48)) v1) 83 48)) v2) 83 48 ((gI (pI (pI h 106 (Int32.toNatClampNeg (gI h 83 48)) v1) 107 (Int32.toNatClampNeg (gI (pI h 106 (Int32.toNatClampNeg (gI h 83 48)) v1) 83 48)) v2) 83 48) + 1)))) : Vw G jX11_opens 10 [some (.ref 83), some (.int v1), some (.int v2)] [] h Q :=
  s_aload_n dX11_opens_10 rfl (s_getR (v := .ref 106) dX11_opens_11 flX11_83 rfl (hi.sh rfl rfl) (hi.rf (o := 83) (k := 44) (d := 23) rfl rfl) (s_aload_n dX11_opens_14 rfl (s_getI dX11_opens_15 flX11_334 (Or.inl rfl) (hi.sh rfl rfl) (s_iload_n dX11_opens_18 rfl (s_iastore dX11_opens_19 (hi.sh rfl rfl) K.1 (s_aload_n dX11_opens_20 rfl (s_getR (v := .ref 107) dX11_opens_21 flX11_86 rfl (hi.sh rfl rfl) (hi.rf (o := 83) (k := 45) (d := 24) rfl rfl) (s_aload_n dX11_opens_24 rfl (s_getI dX11_opens_25 flX11_334 (Or.inl rfl) (hi.sh rfl rfl) (s_iload_n dX11_opens_28 rfl (s_iastore dX11_opens_29 (hi.sh rfl rfl) K.2.1 (s_aload_n dX11_opens_30 rfl (s_dupr dX11_opens_31 (s_getI dX11_opens_32 flX11_334 (Or.inl rfl) (hi.sh rfl rfl) (s_iconst 1 dX11_opens_35 (by decide) (s_iadd dX11_opens_36 (s_putI dX11_opens_37 flX11_334 ff10_48 rfl (hi.sh rfl rfl) (s_return dX11_opens_40 rfl K.2.2))))))))))))))))))
theorem eX11_opens {G : GX} {h : mH} {Q : mO → mH → Prop} {v1 : Int32} {v2 : Int32} (hi : Iv h) (K : WM G jX11_need [.ref 83, .int (fX11_isSign h 40)] h (Aft G jX11_opens 7 [some (.ref 83), some (.int v1), some (.int v2)] [] Q)) : WM G jX11_opens [.ref 83, .int v1, .int v2] h Q :=
  WM.body (ls := [some (.ref 83), some (.int v1), some (.int v2)]) rfl (by decide +kernel) rfl (Nat.le_of_ble_eq_true rfl) rfl ((bX11_opens_0 hi  K))
theorem dX11_test_0 : decode cX11_test 0 = .ok (.iconst 0, 1) := by decide +kernel
theorem dX11_test_1 : decode cX11_test 1 = .ok (.istore_n 1, 1) := by decide +kernel
theorem dX11_test_2 : decode cX11_test 2 = .ok (.aload_n 0, 1) := by decide +kernel
theorem dX11_test_3 : decode cX11_test 3 = .ok (.invokevirtual 172, 3) := by decide +kernel
theorem dX11_test_6 : decode cX11_test 6 = .ok (.ifCond .eq 39, 3) := by decide +kernel
theorem dX11_test_9 : decode cX11_test 9 = .ok (.aload_n 0, 1) := by decide +kernel
theorem dX11_test_10 : decode cX11_test 10 = .ok (.bipush 14, 2) := by decide +kernel
theorem dX11_test_12 : decode cX11_test 12 = .ok (.invokevirtual 189, 3) := by decide +kernel
theorem dX11_test_15 : decode cX11_test 15 = .ok (.ifCond .eq 30, 3) := by decide +kernel
theorem dX11_test_18 : decode cX11_test 18 = .ok (.iload_n 1, 1) := by decide +kernel
theorem dX11_test_19 : decode cX11_test 19 = .ok (.iconst 4, 1) := by decide +kernel
theorem dX11_test_20 : decode cX11_test 20 = .ok (.if_icmp .ne 8, 3) := by decide +kernel
theorem dX11_test_23 : decode cX11_test 23 = .ok (.aload_n 0, 1) := by decide +kernel
theorem dX11_test_24 : decode cX11_test 24 = .ok (.iconst 2, 1) := by decide +kernel
theorem dX11_test_25 : decode cX11_test 25 = .ok (.invokevirtual 179, 3) := by decide +kernel
theorem dX11_test_28 : decode cX11_test 28 = .ok (.iinc 1 1, 3) := by decide +kernel
theorem dX11_test_31 : decode cX11_test 31 = .ok (.aload_n 0, 1) := by decide +kernel
theorem dX11_test_32 : decode cX11_test 32 = .ok (.invokevirtual 172, 3) := by decide +kernel
theorem dX11_test_35 : decode cX11_test 35 = .ok (.ifCond .eq (-33), 3) := by decide +kernel
theorem dX11_test_38 : decode cX11_test 38 = .ok (.aload_n 0, 1) := by decide +kernel
theorem dX11_test_39 : decode cX11_test 39 = .ok (.invokevirtual 176, 3) := by decide +kernel
theorem dX11_test_42 : decode cX11_test 42 = .ok (.goto (-40), 3) := by decide +kernel
theorem dX11_test_45 : decode cX11_test 45 = .ok (.aload_n 0, 1) := by decide +kernel
theorem dX11_test_46 : decode cX11_test 46 = .ok (.invokevirtual 172, 3) := by decide +kernel
theorem dX11_test_49 : decode cX11_test 49 = .ok (.ifCond .ne 4, 3) := by decide +kernel
theorem dX11_test_52 : decode cX11_test 52 = .ok (.return_, 1) := by decide +kernel
theorem dX11_test_53 : decode cX11_test 53 = .ok (.iconst (-1), 1) := by decide +kernel
theorem dX11_test_54 : decode cX11_test 54 = .ok (.istore_n 2, 1) := by decide +kernel
theorem dX11_test_55 : decode cX11_test 55 = .ok (.bipush 15, 2) := by decide +kernel
theorem dX11_test_57 : decode cX11_test 57 = .ok (.istore_n 3, 1) := by decide +kernel
theorem dX11_test_58 : decode cX11_test 58 = .ok (.iload_n 3, 1) := by decide +kernel
theorem dX11_test_59 : decode cX11_test 59 = .ok (.bipush 18, 2) := by decide +kernel
theorem dX11_test_61 : decode cX11_test 61 = .ok (.if_icmp .gt 19, 3) := by decide +kernel
theorem dX11_test_64 : decode cX11_test 64 = .ok (.aload_n 0, 1) := by decide +kernel
theorem dX11_test_65 : decode cX11_test 65 = .ok (.iload_n 3, 1) := by decide +kernel
theorem dX11_test_66 : decode cX11_test 66 = .ok (.invokevirtual 189, 3) := by decide +kernel
theorem dX11_test_69 : decode cX11_test 69 = .ok (.ifCond .eq 5, 3) := by decide +kernel
theorem dX11_test_72 : decode cX11_test 72 = .ok (.iload_n 3, 1) := by decide +kernel
theorem dX11_test_73 : decode cX11_test 73 = .ok (.istore_n 2, 1) := by decide +kernel
theorem dX11_test_74 : decode cX11_test 74 = .ok (.iinc 3 1, 3) := by decide +kernel
theorem dX11_test_77 : decode cX11_test 77 = .ok (.goto (-19), 3) := by decide +kernel
theorem dX11_test_80 : decode cX11_test 80 = .ok (.aload_n 0, 1) := by decide +kernel
theorem dX11_test_81 : decode cX11_test 81 = .ok (.iload_n 2, 1) := by decide +kernel
theorem dX11_test_82 : decode cX11_test 82 = .ok (.iconst (-1), 1) := by decide +kernel
theorem dX11_test_83 : decode cX11_test 83 = .ok (.if_icmp .eq 7, 3) := by decide +kernel
theorem dX11_test_86 : decode cX11_test 86 = .ok (.iconst 1, 1) := by decide +kernel
theorem dX11_test_87 : decode cX11_test 87 = .ok (.goto 4, 3) := by decide +kernel
theorem dX11_test_90 : decode cX11_test 90 = .ok (.iconst 0, 1) := by decide +kernel
theorem dX11_test_91 : decode cX11_test 91 = .ok (.invokevirtual 192, 3) := by decide +kernel
theorem dX11_test_94 : decode cX11_test 94 = .ok (.aload_n 0, 1) := by decide +kernel
theorem dX11_test_95 : decode cX11_test 95 = .ok (.iload_n 1, 1) := by decide +kernel
theorem dX11_test_96 : decode cX11_test 96 = .ok (.iconst 2, 1) := by decide +kernel
theorem dX11_test_97 : decode cX11_test 97 = .ok (.irem, 1) := by decide +kernel
theorem dX11_test_98 : decode cX11_test 98 = .ok (.invokevirtual 337, 3) := by decide +kernel
theorem dX11_test_101 : decode cX11_test 101 = .ok (.aload_n 0, 1) := by decide +kernel
theorem dX11_test_102 : decode cX11_test 102 = .ok (.iload_n 2, 1) := by decide +kernel
theorem dX11_test_103 : decode cX11_test 103 = .ok (.invokevirtual 337, 3) := by decide +kernel
theorem dX11_test_106 : decode cX11_test 106 = .ok (.aload_n 0, 1) := by decide +kernel
theorem dX11_test_107 : decode cX11_test 107 = .ok (.iload_n 2, 1) := by decide +kernel
theorem dX11_test_108 : decode cX11_test 108 = .ok (.bipush 18, 2) := by decide +kernel
theorem dX11_test_110 : decode cX11_test 110 = .ok (.if_icmp .ne 12, 3) := by decide +kernel
theorem dX11_test_113 : decode cX11_test 113 = .ok (.aload_n 0, 1) := by decide +kernel
theorem dX11_test_114 : decode cX11_test 114 = .ok (.iconst 0, 1) := by decide +kernel
theorem dX11_test_115 : decode cX11_test 115 = .ok (.iconst 3, 1) := by decide +kernel
theorem dX11_test_116 : decode cX11_test 116 = .ok (.invokevirtual 182, 3) := by decide +kernel
theorem dX11_test_119 : decode cX11_test 119 = .ok (.goto 4, 3) := by decide +kernel
theorem dX11_test_122 : decode cX11_test 122 = .ok (.iconst 0, 1) := by decide +kernel
theorem dX11_test_123 : decode cX11_test 123 = .ok (.invokevirtual 337, 3) := by decide +kernel
theorem dX11_test_126 : decode cX11_test 126 = .ok (.return_, 1) := by decide +kernel
theorem bX11_test_0 {G : GX} {h : mH} {Q : mO → mH → Prop} (hi : Iv h) (K : Vw G jX11_test 2 [some (.ref 83), some (.int 0), none, none] [] h Q) : Vw G jX11_test 0 [some (.ref 83), none, none, none] [] h Q :=
  s_iconst 0 dX11_test_0 (by decide) (s_istore_n dX11_test_1 (Nat.le_of_ble_eq_true rfl) rfl (K))
theorem bX11_test_2 {G : GX} {h : mH} {Q : mO → mH → Prop} {v1 : Int32} (hi : Iv h) (K : ((fX11_isGood h) = 0 → Vw G jX11_test 45 [some (.ref 83), some (.int v1), none, none] [] h Q) ∧ (¬ (fX11_isGood h) = 0 → WM G jX11_is [.ref 83, .int 14] h (Aft G jX11_test 12 [some (.ref 83), some (.int v1), none, none] [] Q))) : Vw G jX11_test 2 [some (.ref 83), some (.int v1), none, none] [] h Q :=
  s_aload_n dX11_test_2 rfl (s_callV (As := []) dX11_test_3 rfl lvX11_172 ⟨Nat.le_of_ble_eq_true rfl, Nat.le_of_ble_eq_true rfl⟩ (hi.sh rfl rfl) ⟨_, _, by decide, rfl⟩ rfl (Nat.le_of_ble_eq_true rfl) (mX11_isGood hi   (s_if_eq 45 dX11_test_6 rfl (fun q2 => (K.1 q2)) (fun q2 => s_aload_n dX11_test_9 rfl (s_bipush 14 dX11_test_10 (by decide) (s_callV (As := [.int 14]) dX11_test_12 rfl lvX11_189 ⟨Nat.le_of_ble_eq_true rfl, Nat.le_of_ble_eq_true rfl⟩ (hi.sh rfl rfl) ⟨_, _, by decide, rfl⟩ rfl (Nat.le_of_ble_eq_true rfl) ((K.2 q2))))))))
theorem bX11_test_15 {G : GX} {h : mH} {Q : mO → mH → Prop} {v1 : Int32} {vs0 : Int32} (hi : Iv h) (K : (vs0 = 0 → Vw G jX11_test 45 [some (.ref 83), some (.int v1), none, none] [] h Q) ∧ (¬ vs0 = 0 → ((¬ v1 = 4 → Vw G jX11_test 28 [some (.ref 83), some (.int v1), none, none] [] h Q) ∧ (v1 = 4 → WM G jX11_wrong [.ref 83, .int 2] h (Aft G jX11_test 25 [some (.ref 83), some (.int v1), none, none] [] Q))))) : Vw G jX11_test 15 [some (.ref 83), some (.int v1), none, none] [.int vs0] h Q :=
  s_if_eq 45 dX11_test_15 rfl (fun q0 => (K.1 q0)) (fun q0 => s_iload_n dX11_test_18 rfl (s_iconst 4 dX11_test_19 (by decide) (s_icmp_ne 28 dX11_test_20 rfl (fun q3 => ((K.2 q0).1 q3)) (fun q3 => s_aload_n dX11_test_23 rfl (s_iconst 2 dX11_test_24 (by decide) (s_callV (As := [.int 2]) dX11_test_25 rfl lvX11_179 ⟨Nat.le_of_ble_eq_true rfl, Nat.le_of_ble_eq_true rfl⟩ (hi.sh rfl rfl) ⟨_, _, by decide, rfl⟩ rfl (Nat.le_of_ble_eq_true rfl) (((K.2 q0).2 q3))))))))
theorem bX11_test_28 {G : GX} {h : mH} {Q : mO → mH → Prop} {v1 : Int32} (hi : Iv h) (K : ((fX11_isGood h) = 0 → Vw G jX11_test 2 [some (.ref 83), some (.int (v1 + 1)), none, none] [] h Q) ∧ (¬ (fX11_isGood h) = 0 → WM G jX11_steps [.ref 83] h (Aft G jX11_test 39 [some (.ref 83), some (.int (v1 + 1)), none, none] [] Q))) : Vw G jX11_test 28 [some (.ref 83), some (.int v1), none, none] [] h Q :=
  s_iinc 1 dX11_test_28 rfl (by decide) (Nat.le_of_ble_eq_true rfl) rfl (s_aload_n dX11_test_31 rfl (s_callV (As := []) dX11_test_32 rfl lvX11_172 ⟨Nat.le_of_ble_eq_true rfl, Nat.le_of_ble_eq_true rfl⟩ (hi.sh rfl rfl) ⟨_, _, by decide, rfl⟩ rfl (Nat.le_of_ble_eq_true rfl) (mX11_isGood hi   (s_if_eq 2 dX11_test_35 rfl (fun q3 => (K.1 q3)) (fun q3 => s_aload_n dX11_test_38 rfl (s_callV (As := []) dX11_test_39 rfl lvX11_176 ⟨Nat.le_of_ble_eq_true rfl, Nat.le_of_ble_eq_true rfl⟩ (hi.sh rfl rfl) ⟨_, _, by decide, rfl⟩ rfl (Nat.le_of_ble_eq_true rfl) ((K.2 q3))))))))
theorem bX11_test_42 {G : GX} {h : mH} {Q : mO → mH → Prop} {v1 : Int32} (hi : Iv h) (K : Vw G jX11_test 2 [some (.ref 83), some (.int v1), none, none] [] h Q) : Vw G jX11_test 42 [some (.ref 83), some (.int v1), none, none] [] h Q :=
  s_goto 2 dX11_test_42 rfl (K)
theorem bX11_test_45 {G : GX} {h : mH} {Q : mO → mH → Prop} {v1 : Int32} (hi : Iv h) (K : (¬ (fX11_isGood h) = 0 → Vw G jX11_test 58 [some (.ref 83), some (.int v1), some (.int (-1)), some (.int 15)] [] h Q) ∧ ((fX11_isGood h) = 0 → Q (.inl none) h)) : Vw G jX11_test 45 [some (.ref 83), some (.int v1), none, none] [] h Q :=
  s_aload_n dX11_test_45 rfl (s_callV (As := []) dX11_test_46 rfl lvX11_172 ⟨Nat.le_of_ble_eq_true rfl, Nat.le_of_ble_eq_true rfl⟩ (hi.sh rfl rfl) ⟨_, _, by decide, rfl⟩ rfl (Nat.le_of_ble_eq_true rfl) (mX11_isGood hi   (s_if_ne 53 dX11_test_49 rfl (fun q2 => s_iconst (-1) dX11_test_53 (by decide) (s_istore_n dX11_test_54 (Nat.le_of_ble_eq_true rfl) rfl (s_bipush 15 dX11_test_55 (by decide) (s_istore_n dX11_test_57 (Nat.le_of_ble_eq_true rfl) rfl ((K.1 q2)))))) (fun q2 => s_return dX11_test_52 rfl (K.2 q2)))))
theorem bX11_test_58 {G : GX} {h : mH} {Q : mO → mH → Prop} {v1 : Int32} {v2 : Int32} {v3 : Int32} (hi : Iv h) (K : (18 < v3 → ((v2 = (-1) → WM G jX11_need [.ref 83, .int 0] h (Aft G jX11_test 91 [some (.ref 83), some (.int v1), some (.int v2), none] [] Q)) ∧ (¬ v2 = (-1) → WM G jX11_need [.ref 83, .int 1] h (Aft G jX11_test 91 [some (.ref 83), some (.int v1), some (.int v2), none] [] Q)))) ∧ (¬ 18 < v3 → WM G jX11_is [.ref 83, .int v3] h (Aft G jX11_test 66 [some (.ref 83), some (.int v1), some (.int v2), some (.int v3)] [] Q))) : Vw G jX11_test 58 [some (.ref 83), some (.int v1), some (.int v2), some (.int v3)] [] h Q :=
  s_iload_n dX11_test_58 rfl (s_bipush 18 dX11_test_59 (by decide) (s_icmp_gt 80 dX11_test_61 rfl (fun q2 => s_aload_n dX11_test_80 rfl (s_iload_n dX11_test_81 rfl (s_iconst (-1) dX11_test_82 (by decide) (s_icmp_eq 90 dX11_test_83 rfl (fun q6 => s_iconst 0 dX11_test_90 (by decide) (Vw.mask [true, true, true, false] (s_callV (As := [.int 0]) dX11_test_91 rfl lvX11_192 ⟨Nat.le_of_ble_eq_true rfl, Nat.le_of_ble_eq_true rfl⟩ (hi.sh rfl rfl) ⟨_, _, by decide, rfl⟩ rfl (Nat.le_of_ble_eq_true rfl) (((K.1 q2).1 q6))))) (fun q6 => s_iconst 1 dX11_test_86 (by decide) (s_goto 91 dX11_test_87 rfl (Vw.mask [true, true, true, false] (s_callV (As := [.int 1]) dX11_test_91 rfl lvX11_192 ⟨Nat.le_of_ble_eq_true rfl, Nat.le_of_ble_eq_true rfl⟩ (hi.sh rfl rfl) ⟨_, _, by decide, rfl⟩ rfl (Nat.le_of_ble_eq_true rfl) (((K.1 q2).2 q6)))))))))) (fun q2 => s_aload_n dX11_test_64 rfl (s_iload_n dX11_test_65 rfl (s_callV (As := [.int v3]) dX11_test_66 rfl lvX11_189 ⟨Nat.le_of_ble_eq_true rfl, Nat.le_of_ble_eq_true rfl⟩ (hi.sh rfl rfl) ⟨_, _, by decide, rfl⟩ rfl (Nat.le_of_ble_eq_true rfl) ((K.2 q2)))))))
theorem bX11_test_69 {G : GX} {h : mH} {Q : mO → mH → Prop} {v1 : Int32} {v2 : Int32} {v3 : Int32} {vs0 : Int32} (hi : Iv h) (K : (vs0 = 0 → Vw G jX11_test 74 [some (.ref 83), some (.int v1), some (.int v2), some (.int v3)] [] h Q) ∧ (¬ vs0 = 0 → Vw G jX11_test 74 [some (.ref 83), some (.int v1), some (.int v3), some (.int v3)] [] h Q)) : Vw G jX11_test 69 [some (.ref 83), some (.int v1), some (.int v2), some (.int v3)] [.int vs0] h Q :=
  s_if_eq 74 dX11_test_69 rfl (fun q0 => (K.1 q0)) (fun q0 => s_iload_n dX11_test_72 rfl (s_istore_n dX11_test_73 (Nat.le_of_ble_eq_true rfl) rfl ((K.2 q0))))
theorem bX11_test_74 {G : GX} {h : mH} {Q : mO → mH → Prop} {v1 : Int32} {v2 : Int32} {v3 : Int32} (hi : Iv h) (K : Vw G jX11_test 58 [some (.ref 83), some (.int v1), some (.int v2), some (.int (v3 + 1))] [] h Q) : Vw G jX11_test 74 [some (.ref 83), some (.int v1), some (.int v2), some (.int v3)] [] h Q :=
  s_iinc 1 dX11_test_74 rfl (by decide) (Nat.le_of_ble_eq_true rfl) rfl (s_goto 58 dX11_test_77 rfl (K))
theorem bX11_test_94 {G : GX} {h : mH} {Q : mO → mH → Prop} {v1 : Int32} {v2 : Int32} (hi : Iv h) (K : WM G jX11_puts [.ref 83, .int (v1 - v1 / (2 : Int32) * (2 : Int32))] h (Aft G jX11_test 98 [some (.ref 83), none, some (.int v2), none] [] Q)) : Vw G jX11_test 94 [some (.ref 83), some (.int v1), some (.int v2), none] [] h Q :=
  s_aload_n dX11_test_94 rfl (s_iload_n dX11_test_95 rfl (s_iconst 2 dX11_test_96 (by decide) (s_irem dX11_test_97 (by decide) (Vw.mask [true, false, true, false] (s_callV (As := [.int (v1 - v1 / (2 : Int32) * (2 : Int32))]) dX11_test_98 rfl lvX11_337 ⟨Nat.le_of_ble_eq_true rfl, Nat.le_of_ble_eq_true rfl⟩ (hi.sh rfl rfl) ⟨_, _, by decide, rfl⟩ rfl (Nat.le_of_ble_eq_true rfl) (K))))))
theorem bX11_test_101 {G : GX} {h : mH} {Q : mO → mH → Prop} {v2 : Int32} (hi : Iv h) (K : WM G jX11_puts [.ref 83, .int v2] h (Aft G jX11_test 103 [some (.ref 83), none, some (.int v2), none] [] Q)) : Vw G jX11_test 101 [some (.ref 83), none, some (.int v2), none] [] h Q :=
  s_aload_n dX11_test_101 rfl (s_iload_n dX11_test_102 rfl (s_callV (As := [.int v2]) dX11_test_103 rfl lvX11_337 ⟨Nat.le_of_ble_eq_true rfl, Nat.le_of_ble_eq_true rfl⟩ (hi.sh rfl rfl) ⟨_, _, by decide, rfl⟩ rfl (Nat.le_of_ble_eq_true rfl) (K)))
theorem bX11_test_106 {G : GX} {h : mH} {Q : mO → mH → Prop} {v2 : Int32} (hi : Iv h) (K : (¬ v2 = 18 → WM G jX11_puts [.ref 83, .int 0] h (Aft G jX11_test 123 [none, none, none, none] [] Q)) ∧ (v2 = 18 → WM G jX11_number [.ref 83, .int 0, .int 3] h (Aft G jX11_test 116 [none, none, none, none] [.ref 83] Q))) : Vw G jX11_test 106 [some (.ref 83), none, some (.int v2), none] [] h Q :=
  s_aload_n dX11_test_106 rfl (s_iload_n dX11_test_107 rfl (s_bipush 18 dX11_test_108 (by decide) (s_icmp_ne 122 dX11_test_110 rfl (fun q3 => s_iconst 0 dX11_test_122 (by decide) (Vw.mask [false, false, false, false] (s_callV (As := [.int 0]) dX11_test_123 rfl lvX11_337 ⟨Nat.le_of_ble_eq_true rfl, Nat.le_of_ble_eq_true rfl⟩ (hi.sh rfl rfl) ⟨_, _, by decide, rfl⟩ rfl (Nat.le_of_ble_eq_true rfl) ((K.1 q3))))) (fun q3 => s_aload_n dX11_test_113 rfl (s_iconst 0 dX11_test_114 (by decide) (s_iconst 3 dX11_test_115 (by decide) (Vw.mask [false, false, false, false] (s_callV (As := [.int 0, .int 3]) dX11_test_116 rfl lvX11_182 ⟨Nat.le_of_ble_eq_true rfl, Nat.le_of_ble_eq_true rfl⟩ (hi.sh rfl rfl) ⟨_, _, by decide, rfl⟩ rfl (Nat.le_of_ble_eq_true rfl) ((K.2 q3))))))))))
theorem bX11_test_119 {G : GX} {h : mH} {Q : mO → mH → Prop} {vs0 : Int32} (hi : Iv h) (K : WM G jX11_puts [.ref 83, .int vs0] h (Aft G jX11_test 123 [none, none, none, none] [] Q)) : Vw G jX11_test 119 [none, none, none, none] [.int vs0, .ref 83] h Q :=
  s_goto 123 dX11_test_119 rfl (s_callV (As := [.int vs0]) dX11_test_123 rfl lvX11_337 ⟨Nat.le_of_ble_eq_true rfl, Nat.le_of_ble_eq_true rfl⟩ (hi.sh rfl rfl) ⟨_, _, by decide, rfl⟩ rfl (Nat.le_of_ble_eq_true rfl) (K))
theorem bX11_test_126 {G : GX} {h : mH} {Q : mO → mH → Prop} (hi : Iv h) (K : Q (.inl none) h) : Vw G jX11_test 126 [none, none, none, none] [] h Q :=
  s_return dX11_test_126 rfl K
theorem eX11_test {G : GX} {h : mH} {Q : mO → mH → Prop} (hi : Iv h) (K : Vw G jX11_test 2 [some (.ref 83), some (.int 0), none, none] [] h Q) : WM G jX11_test [.ref 83] h Q :=
  WM.body (ls := [some (.ref 83), none, none, none]) rfl (by decide +kernel) rfl (Nat.le_of_ble_eq_true rfl) rfl ((bX11_test_0 hi  K))
theorem dX11_closes_0 : decode cX11_closes 0 = .ok (.aload_n 0, 1) := by decide +kernel
theorem dX11_closes_1 : decode cX11_closes 1 = .ok (.invokevirtual 176, 3) := by decide +kernel
theorem dX11_closes_4 : decode cX11_closes 4 = .ok (.aload_n 0, 1) := by decide +kernel
theorem dX11_closes_5 : decode cX11_closes 5 = .ok (.dup, 1) := by decide +kernel
theorem dX11_closes_6 : decode cX11_closes 6 = .ok (.getfield 334, 3) := by decide +kernel
theorem dX11_closes_9 : decode cX11_closes 9 = .ok (.iconst 1, 1) := by decide +kernel
theorem dX11_closes_10 : decode cX11_closes 10 = .ok (.isub, 1) := by decide +kernel
theorem dX11_closes_11 : decode cX11_closes 11 = .ok (.putfield 334, 3) := by decide +kernel
theorem dX11_closes_14 : decode cX11_closes 14 = .ok (.aload_n 0, 1) := by decide +kernel
theorem dX11_closes_15 : decode cX11_closes 15 = .ok (.getfield 86, 3) := by decide +kernel
theorem dX11_closes_18 : decode cX11_closes 18 = .ok (.aload_n 0, 1) := by decide +kernel
theorem dX11_closes_19 : decode cX11_closes 19 = .ok (.getfield 334, 3) := by decide +kernel
theorem dX11_closes_22 : decode cX11_closes 22 = .ok (.iaload, 1) := by decide +kernel
theorem dX11_closes_23 : decode cX11_closes 23 = .ok (.istore_n 1, 1) := by decide +kernel
theorem dX11_closes_24 : decode cX11_closes 24 = .ok (.aload_n 0, 1) := by decide +kernel
theorem dX11_closes_25 : decode cX11_closes 25 = .ok (.getfield 83, 3) := by decide +kernel
theorem dX11_closes_28 : decode cX11_closes 28 = .ok (.aload_n 0, 1) := by decide +kernel
theorem dX11_closes_29 : decode cX11_closes 29 = .ok (.getfield 334, 3) := by decide +kernel
theorem dX11_closes_32 : decode cX11_closes 32 = .ok (.iaload, 1) := by decide +kernel
theorem dX11_closes_33 : decode cX11_closes 33 = .ok (.bipush 11, 2) := by decide +kernel
theorem dX11_closes_35 : decode cX11_closes 35 = .ok (.if_icmp .ne 29, 3) := by decide +kernel
theorem dX11_closes_38 : decode cX11_closes 38 = .ok (.aload_n 0, 1) := by decide +kernel
theorem dX11_closes_39 : decode cX11_closes 39 = .ok (.bipush 100, 2) := by decide +kernel
theorem dX11_closes_41 : decode cX11_closes 41 = .ok (.invokevirtual 337, 3) := by decide +kernel
theorem dX11_closes_44 : decode cX11_closes 44 = .ok (.aload_n 0, 1) := by decide +kernel
theorem dX11_closes_45 : decode cX11_closes 45 = .ok (.iload_n 1, 1) := by decide +kernel
theorem dX11_closes_46 : decode cX11_closes 46 = .ok (.invokevirtual 337, 3) := by decide +kernel
theorem dX11_closes_49 : decode cX11_closes 49 = .ok (.aload_n 0, 1) := by decide +kernel
theorem dX11_closes_50 : decode cX11_closes 50 = .ok (.getfield 80, 3) := by decide +kernel
theorem dX11_closes_53 : decode cX11_closes 53 = .ok (.iload_n 1, 1) := by decide +kernel
theorem dX11_closes_54 : decode cX11_closes 54 = .ok (.iconst 1, 1) := by decide +kernel
theorem dX11_closes_55 : decode cX11_closes 55 = .ok (.isub, 1) := by decide +kernel
theorem dX11_closes_56 : decode cX11_closes 56 = .ok (.aload_n 0, 1) := by decide +kernel
theorem dX11_closes_57 : decode cX11_closes 57 = .ok (.getfield 328, 3) := by decide +kernel
theorem dX11_closes_60 : decode cX11_closes 60 = .ok (.iastore, 1) := by decide +kernel
theorem dX11_closes_61 : decode cX11_closes 61 = .ok (.goto 76, 3) := by decide +kernel
theorem dX11_closes_64 : decode cX11_closes 64 = .ok (.aload_n 0, 1) := by decide +kernel
theorem dX11_closes_65 : decode cX11_closes 65 = .ok (.getfield 83, 3) := by decide +kernel
theorem dX11_closes_68 : decode cX11_closes 68 = .ok (.aload_n 0, 1) := by decide +kernel
theorem dX11_closes_69 : decode cX11_closes 69 = .ok (.getfield 334, 3) := by decide +kernel
theorem dX11_closes_72 : decode cX11_closes 72 = .ok (.iaload, 1) := by decide +kernel
theorem dX11_closes_73 : decode cX11_closes 73 = .ok (.bipush 12, 2) := by decide +kernel
theorem dX11_closes_75 : decode cX11_closes 75 = .ok (.if_icmp .ne 52, 3) := by decide +kernel
theorem dX11_closes_78 : decode cX11_closes 78 = .ok (.aload_n 0, 1) := by decide +kernel
theorem dX11_closes_79 : decode cX11_closes 79 = .ok (.bipush 13, 2) := by decide +kernel
theorem dX11_closes_81 : decode cX11_closes 81 = .ok (.invokevirtual 189, 3) := by decide +kernel
theorem dX11_closes_84 : decode cX11_closes 84 = .ok (.ifCond .eq 43, 3) := by decide +kernel
theorem dX11_closes_87 : decode cX11_closes 87 = .ok (.aload_n 0, 1) := by decide +kernel
theorem dX11_closes_88 : decode cX11_closes 88 = .ok (.invokevirtual 176, 3) := by decide +kernel
theorem dX11_closes_91 : decode cX11_closes 91 = .ok (.aload_n 0, 1) := by decide +kernel
theorem dX11_closes_92 : decode cX11_closes 92 = .ok (.bipush 101, 2) := by decide +kernel
theorem dX11_closes_94 : decode cX11_closes 94 = .ok (.invokevirtual 337, 3) := by decide +kernel
theorem dX11_closes_97 : decode cX11_closes 97 = .ok (.aload_n 0, 1) := by decide +kernel
theorem dX11_closes_98 : decode cX11_closes 98 = .ok (.iconst 0, 1) := by decide +kernel
theorem dX11_closes_99 : decode cX11_closes 99 = .ok (.invokevirtual 337, 3) := by decide +kernel
theorem dX11_closes_102 : decode cX11_closes 102 = .ok (.aload_n 0, 1) := by decide +kernel
theorem dX11_closes_103 : decode cX11_closes 103 = .ok (.getfield 80, 3) := by decide +kernel
theorem dX11_closes_106 : decode cX11_closes 106 = .ok (.iload_n 1, 1) := by decide +kernel
theorem dX11_closes_107 : decode cX11_closes 107 = .ok (.aload_n 0, 1) := by decide +kernel
theorem dX11_closes_108 : decode cX11_closes 108 = .ok (.getfield 328, 3) := by decide +kernel
theorem dX11_closes_111 : decode cX11_closes 111 = .ok (.iastore, 1) := by decide +kernel
theorem dX11_closes_112 : decode cX11_closes 112 = .ok (.aload_n 0, 1) := by decide +kernel
theorem dX11_closes_113 : decode cX11_closes 113 = .ok (.bipush 13, 2) := by decide +kernel
theorem dX11_closes_115 : decode cX11_closes 115 = .ok (.aload_n 0, 1) := by decide +kernel
theorem dX11_closes_116 : decode cX11_closes 116 = .ok (.getfield 328, 3) := by decide +kernel
theorem dX11_closes_119 : decode cX11_closes 119 = .ok (.iconst 1, 1) := by decide +kernel
theorem dX11_closes_120 : decode cX11_closes 120 = .ok (.isub, 1) := by decide +kernel
theorem dX11_closes_121 : decode cX11_closes 121 = .ok (.invokevirtual 340, 3) := by decide +kernel
theorem dX11_closes_124 : decode cX11_closes 124 = .ok (.goto 13, 3) := by decide +kernel
theorem dX11_closes_127 : decode cX11_closes 127 = .ok (.aload_n 0, 1) := by decide +kernel
theorem dX11_closes_128 : decode cX11_closes 128 = .ok (.getfield 80, 3) := by decide +kernel
theorem dX11_closes_131 : decode cX11_closes 131 = .ok (.iload_n 1, 1) := by decide +kernel
theorem dX11_closes_132 : decode cX11_closes 132 = .ok (.aload_n 0, 1) := by decide +kernel
theorem dX11_closes_133 : decode cX11_closes 133 = .ok (.getfield 328, 3) := by decide +kernel
theorem dX11_closes_136 : decode cX11_closes 136 = .ok (.iastore, 1) := by decide +kernel
theorem dX11_closes_137 : decode cX11_closes 137 = .ok (.return_, 1) := by decide +kernel
theorem bX11_closes_0 {G : GX} {h : mH} {Q : mO → mH → Prop} (hi : Iv h) (K : WM G jX11_steps [.ref 83] h (Aft G jX11_closes 1 [some (.ref 83), none] [] Q)) : Vw G jX11_closes 0 [some (.ref 83), none] [] h Q :=
  s_aload_n dX11_closes_0 rfl (s_callV (As := []) dX11_closes_1 rfl lvX11_176 ⟨Nat.le_of_ble_eq_true rfl, Nat.le_of_ble_eq_true rfl⟩ (hi.sh rfl rfl) ⟨_, _, by decide, rfl⟩ rfl (Nat.le_of_ble_eq_true rfl) (K))
theorem bX11_closes_4 {G : GX} {h : mH} {Q : mO → mH → Prop} (hi : Iv h) (K : vp_in (gI (pI h 83 48 ((gI h 83 48) - 1)) 83 48) 5 ∧ (vp_in (gI (pI h 83 48 ((gI h 83 48) - 1)) 83 48) 5 ∧ ((¬ (gI (pI h 83 48 ((gI h 83 48) - 1)) 106 (Int32.toNatClampNeg (gI (pI h 83 48 ((gI h 83 48) - 1)) 83 48))) = 11 → (vp_in (gI (pI h 83 48 ((gI h 83 48) - 1)) 83 48) 5 ∧ ((¬ (gI (pI h 83 48 ((gI h 83 48) - 1)) 106 (Int32.toNatClampNeg (gI (pI h 83 48 ((gI h 83 48) - 1)) 83 48))) = 12 → Vw G jX11_closes 127 [some (.ref 83), some (.int (gI (pI h 83 48 ((gI h 83 48) - 1)) 107 (Int32.toNatClampNeg (gI (pI h 83 48 ((gI h 83 48) - 1)) 83 48))))] [] (pI h 83 48 ((gI h 83 48) - 1)) Q) ∧ ((gI (pI h 83 48 ((gI h 83 48) - 1)) 106 (Int32.toNatClampNeg (gI (pI h 83 48 ((gI h 83 48) - 1)) 83 48))) = 12 → WM G jX11_is [.ref 83, .int 13] (pI h 83 48 ((gI h 83 48) - 1)) (Aft G jX11_closes 81 [some (.ref 83), some (.int (gI (pI h 83 48 ((gI h 83 48) - 1)) 107 (Int32.toNatClampNeg (gI (pI h 83 48 ((gI h 83 48) - 1)) 83 48))))] [] Q))))) ∧ ((gI (pI h 83 48 ((gI h 83 48) - 1)) 106 (Int32.toNatClampNeg (gI (pI h 83 48 ((gI h 83 48) - 1)) 83 48))) = 11 → WM G jX11_puts [.ref 83, .int 100] (pI h 83 48 ((gI h 83 48) - 1)) (Aft G jX11_closes 41 [some (.ref 83), some (.int (gI (pI h 83 48 ((gI h 83 48) - 1)) 107 (Int32.toNatClampNeg (gI (pI h 83 48 ((gI h 83 48) - 1)) 83 48))))] [] Q))))) : Vw G jX11_closes 4 [some (.ref 83), none] [] h Q :=
  s_aload_n dX11_closes_4 rfl (s_dupr dX11_closes_5 (s_getI dX11_closes_6 flX11_334 (Or.inl rfl) (hi.sh rfl rfl) (s_iconst 1 dX11_closes_9 (by decide) (s_isub dX11_closes_10 (s_putI dX11_closes_11 flX11_334 ff10_48 rfl (hi.sh rfl rfl) (s_aload_n dX11_closes_14 rfl (s_getR (v := .ref 107) dX11_closes_15 flX11_86 rfl (hi.sh rfl rfl) (hi.rf (o := 83) (k := 45) (d := 24) rfl rfl) (s_aload_n dX11_closes_18 rfl (s_getI dX11_closes_19 flX11_334 (Or.inl rfl) (hi.sh rfl rfl) (s_iaload dX11_closes_22 (hi.sh rfl rfl) K.1 (s_istore_n dX11_closes_23 (Nat.le_of_ble_eq_true rfl) rfl (s_aload_n dX11_closes_24 rfl (s_getR (v := .ref 106) dX11_closes_25 flX11_83 rfl (hi.sh rfl rfl) (hi.rf (o := 83) (k := 44) (d := 23) rfl rfl) (s_aload_n dX11_closes_28 rfl (s_getI dX11_closes_29 flX11_334 (Or.inl rfl) (hi.sh rfl rfl) (s_iaload dX11_closes_32 (hi.sh rfl rfl) K.2.1 (s_bipush 11 dX11_closes_33 (by decide) (s_icmp_ne 64 dX11_closes_35 rfl (fun q18 => s_aload_n dX11_closes_64 rfl (s_getR (v := .ref 106) dX11_closes_65 flX11_83 rfl (hi.sh rfl rfl) (hi.rf (o := 83) (k := 44) (d := 23) rfl rfl) (s_aload_n dX11_closes_68 rfl (s_getI dX11_closes_69 flX11_334 (Or.inl rfl) (hi.sh rfl rfl) (s_iaload dX11_closes_72 (hi.sh rfl rfl) (K.2.2.1 q18).1 (s_bipush 12 dX11_closes_73 (by decide) (s_icmp_ne 127 dX11_closes_75 rfl (fun q25 => ((K.2.2.1 q18).2.1 q25)) (fun q25 => s_aload_n dX11_closes_78 rfl (s_bipush 13 dX11_closes_79 (by decide) (s_callV (As := [.int 13]) dX11_closes_81 rfl lvX11_189 ⟨Nat.le_of_ble_eq_true rfl, Nat.le_of_ble_eq_true rfl⟩ (hi.sh rfl rfl) ⟨_, _, by decide, rfl⟩ rfl (Nat.le_of_ble_eq_true rfl) (((K.2.2.1 q18).2.2 q25)))))))))))) (fun q18 => s_aload_n dX11_closes_38 rfl (s_bipush 100 dX11_closes_39 (by decide) (s_callV (As := [.int 100]) dX11_closes_41 rfl lvX11_337 ⟨Nat.le_of_ble_eq_true rfl, Nat.le_of_ble_eq_true rfl⟩ (hi.sh rfl rfl) ⟨_, _, by decide, rfl⟩ rfl (Nat.le_of_ble_eq_true rfl) ((K.2.2.2 q18)))))))))))))))))))))))
theorem bX11_closes_44 {G : GX} {h : mH} {Q : mO → mH → Prop} {v1 : Int32} (hi : Iv h) (K : WM G jX11_puts [.ref 83, .int v1] h (Aft G jX11_closes 46 [some (.ref 83), some (.int v1)] [] Q)) : Vw G jX11_closes 44 [some (.ref 83), some (.int v1)] [] h Q :=
  s_aload_n dX11_closes_44 rfl (s_iload_n dX11_closes_45 rfl (s_callV (As := [.int v1]) dX11_closes_46 rfl lvX11_337 ⟨Nat.le_of_ble_eq_true rfl, Nat.le_of_ble_eq_true rfl⟩ (hi.sh rfl rfl) ⟨_, _, by decide, rfl⟩ rfl (Nat.le_of_ble_eq_true rfl) (K)))
theorem bX11_closes_49 {G : GX} {h : mH} {Q : mO → mH → Prop} {v1 : Int32} (hi : Iv h) (K : vp_in (v1 - 1) 600 ∧ Q (.inl none) (pI h 105 (Int32.toNatClampNeg (v1 - 1)) (gI h 83 47))) : Vw G jX11_closes 49 [some (.ref 83), some (.int v1)] [] h Q :=
  s_aload_n dX11_closes_49 rfl (s_getR (v := .ref 105) dX11_closes_50 flX11_80 rfl (hi.sh rfl rfl) (hi.rf (o := 83) (k := 43) (d := 22) rfl rfl) (s_iload_n dX11_closes_53 rfl (s_iconst 1 dX11_closes_54 (by decide) (s_isub dX11_closes_55 (s_aload_n dX11_closes_56 rfl (s_getI dX11_closes_57 flX11_328 (Or.inl rfl) (hi.sh rfl rfl) (s_iastore dX11_closes_60 (hi.sh rfl rfl) K.1 (s_goto 137 dX11_closes_61 rfl (s_return dX11_closes_137 rfl K.2)))))))))
theorem bX11_closes_84 {G : GX} {h : mH} {Q : mO → mH → Prop} {v1 : Int32} {vs0 : Int32} (hi : Iv h) (K : (vs0 = 0 → Vw G jX11_closes 127 [some (.ref 83), some (.int v1)] [] h Q) ∧ (¬ vs0 = 0 → WM G jX11_steps [.ref 83] h (Aft G jX11_closes 88 [some (.ref 83), some (.int v1)] [] Q))) : Vw G jX11_closes 84 [some (.ref 83), some (.int v1)] [.int vs0] h Q :=
  s_if_eq 127 dX11_closes_84 rfl (fun q0 => (K.1 q0)) (fun q0 => s_aload_n dX11_closes_87 rfl (s_callV (As := []) dX11_closes_88 rfl lvX11_176 ⟨Nat.le_of_ble_eq_true rfl, Nat.le_of_ble_eq_true rfl⟩ (hi.sh rfl rfl) ⟨_, _, by decide, rfl⟩ rfl (Nat.le_of_ble_eq_true rfl) ((K.2 q0))))
theorem bX11_closes_91 {G : GX} {h : mH} {Q : mO → mH → Prop} {v1 : Int32} (hi : Iv h) (K : WM G jX11_puts [.ref 83, .int 101] h (Aft G jX11_closes 94 [some (.ref 83), some (.int v1)] [] Q)) : Vw G jX11_closes 91 [some (.ref 83), some (.int v1)] [] h Q :=
  s_aload_n dX11_closes_91 rfl (s_bipush 101 dX11_closes_92 (by decide) (s_callV (As := [.int 101]) dX11_closes_94 rfl lvX11_337 ⟨Nat.le_of_ble_eq_true rfl, Nat.le_of_ble_eq_true rfl⟩ (hi.sh rfl rfl) ⟨_, _, by decide, rfl⟩ rfl (Nat.le_of_ble_eq_true rfl) (K)))
theorem bX11_closes_97 {G : GX} {h : mH} {Q : mO → mH → Prop} {v1 : Int32} (hi : Iv h) (K : WM G jX11_puts [.ref 83, .int 0] h (Aft G jX11_closes 99 [some (.ref 83), some (.int v1)] [] Q)) : Vw G jX11_closes 97 [some (.ref 83), some (.int v1)] [] h Q :=
  s_aload_n dX11_closes_97 rfl (s_iconst 0 dX11_closes_98 (by decide) (s_callV (As := [.int 0]) dX11_closes_99 rfl lvX11_337 ⟨Nat.le_of_ble_eq_true rfl, Nat.le_of_ble_eq_true rfl⟩ (hi.sh rfl rfl) ⟨_, _, by decide, rfl⟩ rfl (Nat.le_of_ble_eq_true rfl) (K)))
theorem bX11_closes_102 {G : GX} {h : mH} {Q : mO → mH → Prop} {v1 : Int32} (hi : Iv h) (K : vp_in v1 600 ∧ WM G jX11_opens [.ref 83, .int 13, .int ((gI (pI h 105 (Int32.toNatClampNeg v1) (gI h 83 47)) 83 47) - 1)] (pI h 105 (Int32.toNatClampNeg v1) (gI h 83 47)) (Aft G jX11_closes 121 [none, none] [] Q)) : Vw G jX11_closes 102 [some (.ref 83), some (.int v1)] [] h Q :=
  s_aload_n dX11_closes_102 rfl (s_getR (v := .ref 105) dX11_closes_103 flX11_80 rfl (hi.sh rfl rfl) (hi.rf (o := 83) (k := 43) (d := 22) rfl rfl) (s_iload_n dX11_closes_106 rfl (s_aload_n dX11_closes_107 rfl (s_getI dX11_closes_108 flX11_328 (Or.inl rfl) (hi.sh rfl rfl) (s_iastore dX11_closes_111 (hi.sh rfl rfl) K.1 (s_aload_n dX11_closes_112 rfl (s_bipush 13 dX11_closes_113 (by decide) (s_aload_n dX11_closes_115 rfl (s_getI dX11_closes_116 flX11_328 (Or.inl rfl) (hi.sh rfl rfl) (s_iconst 1 dX11_closes_119 (by decide) (s_isub dX11_closes_120 (Vw.mask [false, false] (s_callV (As := [.int 13, .int ((gI (pI h 105 (Int32.toNatClampNeg v1) (gI h 83 47)) 83 47) - 1)]) dX11_closes_121 rfl lvX11_340 ⟨Nat.le_of_ble_eq_true rfl, Nat.le_of_ble_eq_true rfl⟩ (hi.sh rfl rfl) ⟨_, _, by decide, rfl⟩ rfl (Nat.le_of_ble_eq_true rfl) (K.2))))))))))))))
theorem bX11_closes_124 {G : GX} {h : mH} {Q : mO → mH → Prop} (hi : Iv h) (K : Q (.inl none) h) : Vw G jX11_closes 124 [none, none] [] h Q :=
  s_goto 137 dX11_closes_124 rfl (s_return dX11_closes_137 rfl K)
theorem bX11_closes_127 {G : GX} {h : mH} {Q : mO → mH → Prop} {v1 : Int32} (hi : Iv h) (K : vp_in v1 600 ∧ Q (.inl none) (pI h 105 (Int32.toNatClampNeg v1) (gI h 83 47))) : Vw G jX11_closes 127 [some (.ref 83), some (.int v1)] [] h Q :=
  s_aload_n dX11_closes_127 rfl (s_getR (v := .ref 105) dX11_closes_128 flX11_80 rfl (hi.sh rfl rfl) (hi.rf (o := 83) (k := 43) (d := 22) rfl rfl) (s_iload_n dX11_closes_131 rfl (s_aload_n dX11_closes_132 rfl (s_getI dX11_closes_133 flX11_328 (Or.inl rfl) (hi.sh rfl rfl) (s_iastore dX11_closes_136 (hi.sh rfl rfl) K.1 (s_return dX11_closes_137 rfl K.2))))))
theorem eX11_closes {G : GX} {h : mH} {Q : mO → mH → Prop} (hi : Iv h) (K : WM G jX11_steps [.ref 83] h (Aft G jX11_closes 1 [some (.ref 83), none] [] Q)) : WM G jX11_closes [.ref 83] h Q :=
  WM.body (ls := [some (.ref 83), none]) rfl (by decide +kernel) rfl (Nat.le_of_ble_eq_true rfl) rfl ((bX11_closes_0 hi  K))
theorem dX11_act_0 : decode cX11_act 0 = .ok (.iconst (-1), 1) := by decide +kernel
theorem dX11_act_1 : decode cX11_act 1 = .ok (.istore_n 1, 1) := by decide +kernel
theorem dX11_act_2 : decode cX11_act 2 = .ok (.bipush 6, 2) := by decide +kernel
theorem dX11_act_4 : decode cX11_act 4 = .ok (.istore_n 2, 1) := by decide +kernel
theorem dX11_act_5 : decode cX11_act 5 = .ok (.iload_n 2, 1) := by decide +kernel
theorem dX11_act_6 : decode cX11_act 6 = .ok (.bipush 12, 2) := by decide +kernel
theorem dX11_act_8 : decode cX11_act 8 = .ok (.if_icmp .gt 19, 3) := by decide +kernel
theorem dX11_act_11 : decode cX11_act 11 = .ok (.aload_n 0, 1) := by decide +kernel
theorem dX11_act_12 : decode cX11_act 12 = .ok (.iload_n 2, 1) := by decide +kernel
theorem dX11_act_13 : decode cX11_act 13 = .ok (.invokevirtual 189, 3) := by decide +kernel
theorem dX11_act_16 : decode cX11_act 16 = .ok (.ifCond .eq 5, 3) := by decide +kernel
theorem dX11_act_19 : decode cX11_act 19 = .ok (.iload_n 2, 1) := by decide +kernel
theorem dX11_act_20 : decode cX11_act 20 = .ok (.istore_n 1, 1) := by decide +kernel
theorem dX11_act_21 : decode cX11_act 21 = .ok (.iinc 2 1, 3) := by decide +kernel
theorem dX11_act_24 : decode cX11_act 24 = .ok (.goto (-19), 3) := by decide +kernel
theorem dX11_act_27 : decode cX11_act 27 = .ok (.iload_n 1, 1) := by decide +kernel
theorem dX11_act_28 : decode cX11_act 28 = .ok (.iconst (-1), 1) := by decide +kernel
theorem dX11_act_29 : decode cX11_act 29 = .ok (.if_icmp .ne 11, 3) := by decide +kernel
theorem dX11_act_32 : decode cX11_act 32 = .ok (.aload_n 0, 1) := by decide +kernel
theorem dX11_act_33 : decode cX11_act 33 = .ok (.iconst 1, 1) := by decide +kernel
theorem dX11_act_34 : decode cX11_act 34 = .ok (.invokevirtual 179, 3) := by decide +kernel
theorem dX11_act_37 : decode cX11_act 37 = .ok (.goto 22, 3) := by decide +kernel
theorem dX11_act_40 : decode cX11_act 40 = .ok (.iload_n 1, 1) := by decide +kernel
theorem dX11_act_41 : decode cX11_act 41 = .ok (.bipush 11, 2) := by decide +kernel
theorem dX11_act_43 : decode cX11_act 43 = .ok (.if_icmp .lt 16, 3) := by decide +kernel
theorem dX11_act_46 : decode cX11_act 46 = .ok (.aload_n 0, 1) := by decide +kernel
theorem dX11_act_47 : decode cX11_act 47 = .ok (.getfield 334, 3) := by decide +kernel
theorem dX11_act_50 : decode cX11_act 50 = .ok (.iconst 5, 1) := by decide +kernel
theorem dX11_act_51 : decode cX11_act 51 = .ok (.if_icmp .ne 8, 3) := by decide +kernel
theorem dX11_act_54 : decode cX11_act 54 = .ok (.aload_n 0, 1) := by decide +kernel
theorem dX11_act_55 : decode cX11_act 55 = .ok (.iconst 2, 1) := by decide +kernel
theorem dX11_act_56 : decode cX11_act 56 = .ok (.invokevirtual 179, 3) := by decide +kernel
theorem dX11_act_59 : decode cX11_act 59 = .ok (.aload_n 0, 1) := by decide +kernel
theorem dX11_act_60 : decode cX11_act 60 = .ok (.invokevirtual 172, 3) := by decide +kernel
theorem dX11_act_63 : decode cX11_act 63 = .ok (.ifCond .ne 4, 3) := by decide +kernel
theorem dX11_act_66 : decode cX11_act 66 = .ok (.return_, 1) := by decide +kernel
theorem dX11_act_67 : decode cX11_act 67 = .ok (.aload_n 0, 1) := by decide +kernel
theorem dX11_act_68 : decode cX11_act 68 = .ok (.invokevirtual 176, 3) := by decide +kernel
theorem dX11_act_71 : decode cX11_act 71 = .ok (.aload_n 0, 1) := by decide +kernel
theorem dX11_act_72 : decode cX11_act 72 = .ok (.iload_n 1, 1) := by decide +kernel
theorem dX11_act_73 : decode cX11_act 73 = .ok (.invokevirtual 337, 3) := by decide +kernel
theorem dX11_act_76 : decode cX11_act 76 = .ok (.iload_n 1, 1) := by decide +kernel
theorem dX11_act_77 : decode cX11_act 77 = .ok (.bipush 6, 2) := by decide +kernel
theorem dX11_act_79 : decode cX11_act 79 = .ok (.if_icmp .eq 9, 3) := by decide +kernel
theorem dX11_act_82 : decode cX11_act 82 = .ok (.iload_n 1, 1) := by decide +kernel
theorem dX11_act_83 : decode cX11_act 83 = .ok (.bipush 7, 2) := by decide +kernel
theorem dX11_act_85 : decode cX11_act 85 = .ok (.if_icmp .ne 18, 3) := by decide +kernel
theorem dX11_act_88 : decode cX11_act 88 = .ok (.aload_n 0, 1) := by decide +kernel
theorem dX11_act_89 : decode cX11_act 89 = .ok (.aload_n 0, 1) := by decide +kernel
theorem dX11_act_90 : decode cX11_act 90 = .ok (.iconst 1, 1) := by decide +kernel
theorem dX11_act_91 : decode cX11_act 91 = .ok (.sipush 200, 3) := by decide +kernel
theorem dX11_act_94 : decode cX11_act 94 = .ok (.invokevirtual 182, 3) := by decide +kernel
theorem dX11_act_97 : decode cX11_act 97 = .ok (.invokevirtual 337, 3) := by decide +kernel
theorem dX11_act_100 : decode cX11_act 100 = .ok (.goto 125, 3) := by decide +kernel
theorem dX11_act_103 : decode cX11_act 103 = .ok (.iload_n 1, 1) := by decide +kernel
theorem dX11_act_104 : decode cX11_act 104 = .ok (.bipush 8, 2) := by decide +kernel
theorem dX11_act_106 : decode cX11_act 106 = .ok (.if_icmp .eq 9, 3) := by decide +kernel
theorem dX11_act_109 : decode cX11_act 109 = .ok (.iload_n 1, 1) := by decide +kernel
theorem dX11_act_110 : decode cX11_act 110 = .ok (.bipush 9, 2) := by decide +kernel
theorem dX11_act_112 : decode cX11_act 112 = .ok (.if_icmp .ne 37, 3) := by decide +kernel
theorem dX11_act_115 : decode cX11_act 115 = .ok (.aload_n 0, 1) := by decide +kernel
theorem dX11_act_116 : decode cX11_act 116 = .ok (.aload_n 0, 1) := by decide +kernel
theorem dX11_act_117 : decode cX11_act 117 = .ok (.iconst 0, 1) := by decide +kernel
theorem dX11_act_118 : decode cX11_act 118 = .ok (.iconst 3, 1) := by decide +kernel
theorem dX11_act_119 : decode cX11_act 119 = .ok (.invokevirtual 182, 3) := by decide +kernel
theorem dX11_act_122 : decode cX11_act 122 = .ok (.invokevirtual 337, 3) := by decide +kernel
theorem dX11_act_125 : decode cX11_act 125 = .ok (.aload_n 0, 1) := by decide +kernel
theorem dX11_act_126 : decode cX11_act 126 = .ok (.aload_n 0, 1) := by decide +kernel
theorem dX11_act_127 : decode cX11_act 127 = .ok (.iload_n 1, 1) := by decide +kernel
theorem dX11_act_128 : decode cX11_act 128 = .ok (.bipush 8, 2) := by decide +kernel
theorem dX11_act_130 : decode cX11_act 130 = .ok (.if_icmp .ne 8, 3) := by decide +kernel
theorem dX11_act_133 : decode cX11_act 133 = .ok (.bipush 9, 2) := by decide +kernel
theorem dX11_act_135 : decode cX11_act 135 = .ok (.goto 5, 3) := by decide +kernel
theorem dX11_act_138 : decode cX11_act 138 = .ok (.bipush 90, 2) := by decide +kernel
theorem dX11_act_140 : decode cX11_act 140 = .ok (.invokevirtual 202, 3) := by decide +kernel
theorem dX11_act_143 : decode cX11_act 143 = .ok (.invokevirtual 337, 3) := by decide +kernel
theorem dX11_act_146 : decode cX11_act 146 = .ok (.goto 79, 3) := by decide +kernel
theorem dX11_act_149 : decode cX11_act 149 = .ok (.iload_n 1, 1) := by decide +kernel
theorem dX11_act_150 : decode cX11_act 150 = .ok (.bipush 11, 2) := by decide +kernel
theorem dX11_act_152 : decode cX11_act 152 = .ok (.if_icmp .ne 39, 3) := by decide +kernel
theorem dX11_act_155 : decode cX11_act 155 = .ok (.aload_n 0, 1) := by decide +kernel
theorem dX11_act_156 : decode cX11_act 156 = .ok (.aload_n 0, 1) := by decide +kernel
theorem dX11_act_157 : decode cX11_act 157 = .ok (.iconst 0, 1) := by decide +kernel
theorem dX11_act_158 : decode cX11_act 158 = .ok (.bipush 20, 2) := by decide +kernel
theorem dX11_act_160 : decode cX11_act 160 = .ok (.invokevirtual 182, 3) := by decide +kernel
theorem dX11_act_163 : decode cX11_act 163 = .ok (.invokevirtual 337, 3) := by decide +kernel
theorem dX11_act_166 : decode cX11_act 166 = .ok (.aload_n 0, 1) := by decide +kernel
theorem dX11_act_167 : decode cX11_act 167 = .ok (.iconst 0, 1) := by decide +kernel
theorem dX11_act_168 : decode cX11_act 168 = .ok (.invokevirtual 337, 3) := by decide +kernel
theorem dX11_act_171 : decode cX11_act 171 = .ok (.aload_n 0, 1) := by decide +kernel
theorem dX11_act_172 : decode cX11_act 172 = .ok (.invokevirtual 172, 3) := by decide +kernel
theorem dX11_act_175 : decode cX11_act 175 = .ok (.ifCond .eq 50, 3) := by decide +kernel
theorem dX11_act_178 : decode cX11_act 178 = .ok (.aload_n 0, 1) := by decide +kernel
theorem dX11_act_179 : decode cX11_act 179 = .ok (.bipush 11, 2) := by decide +kernel
theorem dX11_act_181 : decode cX11_act 181 = .ok (.aload_n 0, 1) := by decide +kernel
theorem dX11_act_182 : decode cX11_act 182 = .ok (.getfield 328, 3) := by decide +kernel
theorem dX11_act_185 : decode cX11_act 185 = .ok (.invokevirtual 340, 3) := by decide +kernel
theorem dX11_act_188 : decode cX11_act 188 = .ok (.goto 37, 3) := by decide +kernel
theorem dX11_act_191 : decode cX11_act 191 = .ok (.iload_n 1, 1) := by decide +kernel
theorem dX11_act_192 : decode cX11_act 192 = .ok (.bipush 12, 2) := by decide +kernel
theorem dX11_act_194 : decode cX11_act 194 = .ok (.if_icmp .ne 31, 3) := by decide +kernel
theorem dX11_act_197 : decode cX11_act 197 = .ok (.aload_n 0, 1) := by decide +kernel
theorem dX11_act_198 : decode cX11_act 198 = .ok (.invokevirtual 344, 3) := by decide +kernel
theorem dX11_act_201 : decode cX11_act 201 = .ok (.aload_n 0, 1) := by decide +kernel
theorem dX11_act_202 : decode cX11_act 202 = .ok (.iconst 0, 1) := by decide +kernel
theorem dX11_act_203 : decode cX11_act 203 = .ok (.invokevirtual 337, 3) := by decide +kernel
theorem dX11_act_206 : decode cX11_act 206 = .ok (.aload_n 0, 1) := by decide +kernel
theorem dX11_act_207 : decode cX11_act 207 = .ok (.invokevirtual 172, 3) := by decide +kernel
theorem dX11_act_210 : decode cX11_act 210 = .ok (.ifCond .eq 15, 3) := by decide +kernel
theorem dX11_act_213 : decode cX11_act 213 = .ok (.aload_n 0, 1) := by decide +kernel
theorem dX11_act_214 : decode cX11_act 214 = .ok (.bipush 12, 2) := by decide +kernel
theorem dX11_act_216 : decode cX11_act 216 = .ok (.aload_n 0, 1) := by decide +kernel
theorem dX11_act_217 : decode cX11_act 217 = .ok (.getfield 328, 3) := by decide +kernel
theorem dX11_act_220 : decode cX11_act 220 = .ok (.iconst 1, 1) := by decide +kernel
theorem dX11_act_221 : decode cX11_act 221 = .ok (.isub, 1) := by decide +kernel
theorem dX11_act_222 : decode cX11_act 222 = .ok (.invokevirtual 340, 3) := by decide +kernel
theorem dX11_act_225 : decode cX11_act 225 = .ok (.return_, 1) := by decide +kernel
theorem bX11_act_0 {G : GX} {h : mH} {Q : mO → mH → Prop} (hi : Iv h) (K : Vw G jX11_act 5 [some (.ref 83), some (.int (-1)), some (.int 6)] [] h Q) : Vw G jX11_act 0 [some (.ref 83), none, none] [] h Q :=
  s_iconst (-1) dX11_act_0 (by decide) (s_istore_n dX11_act_1 (Nat.le_of_ble_eq_true rfl) rfl (s_bipush 6 dX11_act_2 (by decide) (s_istore_n dX11_act_4 (Nat.le_of_ble_eq_true rfl) rfl (K))))
theorem bX11_act_5 {G : GX} {h : mH} {Q : mO → mH → Prop} {v1 : Int32} {v2 : Int32} (hi : Iv h) (K : (12 < v2 → ((¬ v1 = (-1) → ((v1 < 11 → Vw G jX11_act 59 [some (.ref 83), some (.int v1), none] [] h Q) ∧ (¬ v1 < 11 → ((¬ (gI h 83 48) = 5 → Vw G jX11_act 59 [some (.ref 83), some (.int v1), none] [] h Q) ∧ ((gI h 83 48) = 5 → WM G jX11_wrong [.ref 83, .int 2] h (Aft G jX11_act 56 [some (.ref 83), some (.int v1), none] [] Q)))))) ∧ (v1 = (-1) → WM G jX11_wrong [.ref 83, .int 1] h (Aft G jX11_act 34 [some (.ref 83), some (.int v1), none] [] Q)))) ∧ (¬ 12 < v2 → WM G jX11_is [.ref 83, .int v2] h (Aft G jX11_act 13 [some (.ref 83), some (.int v1), some (.int v2)] [] Q))) : Vw G jX11_act 5 [some (.ref 83), some (.int v1), some (.int v2)] [] h Q :=
  s_iload_n dX11_act_5 rfl (s_bipush 12 dX11_act_6 (by decide) (s_icmp_gt 27 dX11_act_8 rfl (fun q2 => s_iload_n dX11_act_27 rfl (s_iconst (-1) dX11_act_28 (by decide) (s_icmp_ne 40 dX11_act_29 rfl (fun q5 => s_iload_n dX11_act_40 rfl (s_bipush 11 dX11_act_41 (by decide) (s_icmp_lt 59 dX11_act_43 rfl (fun q8 => Vw.mask [true, true, false] ((((K.1 q2).1 q5).1 q8))) (fun q8 => s_aload_n dX11_act_46 rfl (s_getI dX11_act_47 flX11_334 (Or.inl rfl) (hi.sh rfl rfl) (s_iconst 5 dX11_act_50 (by decide) (s_icmp_ne 59 dX11_act_51 rfl (fun q12 => Vw.mask [true, true, false] (((((K.1 q2).1 q5).2 q8).1 q12))) (fun q12 => s_aload_n dX11_act_54 rfl (s_iconst 2 dX11_act_55 (by decide) (Vw.mask [true, true, false] (s_callV (As := [.int 2]) dX11_act_56 rfl lvX11_179 ⟨Nat.le_of_ble_eq_true rfl, Nat.le_of_ble_eq_true rfl⟩ (hi.sh rfl rfl) ⟨_, _, by decide, rfl⟩ rfl (Nat.le_of_ble_eq_true rfl) (((((K.1 q2).1 q5).2 q8).2 q12))))))))))))) (fun q5 => s_aload_n dX11_act_32 rfl (s_iconst 1 dX11_act_33 (by decide) (Vw.mask [true, true, false] (s_callV (As := [.int 1]) dX11_act_34 rfl lvX11_179 ⟨Nat.le_of_ble_eq_true rfl, Nat.le_of_ble_eq_true rfl⟩ (hi.sh rfl rfl) ⟨_, _, by decide, rfl⟩ rfl (Nat.le_of_ble_eq_true rfl) (((K.1 q2).2 q5))))))))) (fun q2 => s_aload_n dX11_act_11 rfl (s_iload_n dX11_act_12 rfl (s_callV (As := [.int v2]) dX11_act_13 rfl lvX11_189 ⟨Nat.le_of_ble_eq_true rfl, Nat.le_of_ble_eq_true rfl⟩ (hi.sh rfl rfl) ⟨_, _, by decide, rfl⟩ rfl (Nat.le_of_ble_eq_true rfl) ((K.2 q2)))))))
theorem bX11_act_16 {G : GX} {h : mH} {Q : mO → mH → Prop} {v1 : Int32} {v2 : Int32} {vs0 : Int32} (hi : Iv h) (K : (vs0 = 0 → Vw G jX11_act 21 [some (.ref 83), some (.int v1), some (.int v2)] [] h Q) ∧ (¬ vs0 = 0 → Vw G jX11_act 21 [some (.ref 83), some (.int v2), some (.int v2)] [] h Q)) : Vw G jX11_act 16 [some (.ref 83), some (.int v1), some (.int v2)] [.int vs0] h Q :=
  s_if_eq 21 dX11_act_16 rfl (fun q0 => (K.1 q0)) (fun q0 => s_iload_n dX11_act_19 rfl (s_istore_n dX11_act_20 (Nat.le_of_ble_eq_true rfl) rfl ((K.2 q0))))
theorem bX11_act_21 {G : GX} {h : mH} {Q : mO → mH → Prop} {v1 : Int32} {v2 : Int32} (hi : Iv h) (K : Vw G jX11_act 5 [some (.ref 83), some (.int v1), some (.int (v2 + 1))] [] h Q) : Vw G jX11_act 21 [some (.ref 83), some (.int v1), some (.int v2)] [] h Q :=
  s_iinc 1 dX11_act_21 rfl (by decide) (Nat.le_of_ble_eq_true rfl) rfl (s_goto 5 dX11_act_24 rfl (K))
theorem bX11_act_37 {G : GX} {h : mH} {Q : mO → mH → Prop} {v1 : Int32} (hi : Iv h) (K : Vw G jX11_act 59 [some (.ref 83), some (.int v1), none] [] h Q) : Vw G jX11_act 37 [some (.ref 83), some (.int v1), none] [] h Q :=
  s_goto 59 dX11_act_37 rfl (K)
theorem bX11_act_59 {G : GX} {h : mH} {Q : mO → mH → Prop} {v1 : Int32} (hi : Iv h) (K : (¬ (fX11_isGood h) = 0 → WM G jX11_steps [.ref 83] h (Aft G jX11_act 68 [some (.ref 83), some (.int v1), none] [] Q)) ∧ ((fX11_isGood h) = 0 → Q (.inl none) h)) : Vw G jX11_act 59 [some (.ref 83), some (.int v1), none] [] h Q :=
  s_aload_n dX11_act_59 rfl (s_callV (As := []) dX11_act_60 rfl lvX11_172 ⟨Nat.le_of_ble_eq_true rfl, Nat.le_of_ble_eq_true rfl⟩ (hi.sh rfl rfl) ⟨_, _, by decide, rfl⟩ rfl (Nat.le_of_ble_eq_true rfl) (mX11_isGood hi   (s_if_ne 67 dX11_act_63 rfl (fun q2 => s_aload_n dX11_act_67 rfl (s_callV (As := []) dX11_act_68 rfl lvX11_176 ⟨Nat.le_of_ble_eq_true rfl, Nat.le_of_ble_eq_true rfl⟩ (hi.sh rfl rfl) ⟨_, _, by decide, rfl⟩ rfl (Nat.le_of_ble_eq_true rfl) ((K.1 q2)))) (fun q2 => s_return dX11_act_66 rfl (K.2 q2)))))
theorem bX11_act_71 {G : GX} {h : mH} {Q : mO → mH → Prop} {v1 : Int32} (hi : Iv h) (K : WM G jX11_puts [.ref 83, .int v1] h (Aft G jX11_act 73 [some (.ref 83), some (.int v1), none] [] Q)) : Vw G jX11_act 71 [some (.ref 83), some (.int v1), none] [] h Q :=
  s_aload_n dX11_act_71 rfl (s_iload_n dX11_act_72 rfl (s_callV (As := [.int v1]) dX11_act_73 rfl lvX11_337 ⟨Nat.le_of_ble_eq_true rfl, Nat.le_of_ble_eq_true rfl⟩ (hi.sh rfl rfl) ⟨_, _, by decide, rfl⟩ rfl (Nat.le_of_ble_eq_true rfl) (K)))
theorem bX11_act_76 {G : GX} {h : mH} {Q : mO → mH → Prop} {v1 : Int32} (hi : Iv h) (K : (v1 = 6 → Vw G jX11_act 88 [some (.ref 83), none, none] [] h Q) ∧ (¬ v1 = 6 → ((¬ v1 = 7 → ((v1 = 8 → Vw G jX11_act 115 [some (.ref 83), some (.int v1), none] [] h Q) ∧ (¬ v1 = 8 → ((¬ v1 = 9 → ((¬ v1 = 11 → ((¬ v1 = 12 → Vw G jX11_act 225 [none, none, none] [] h Q) ∧ (v1 = 12 → WM G jX11_test [.ref 83] h (Aft G jX11_act 198 [some (.ref 83), none, none] [] Q)))) ∧ (v1 = 11 → WM G jX11_number [.ref 83, .int 0, .int 20] h (Aft G jX11_act 160 [some (.ref 83), none, none] [.ref 83] Q)))) ∧ (v1 = 9 → Vw G jX11_act 115 [some (.ref 83), some (.int v1), none] [] h Q))))) ∧ (v1 = 7 → Vw G jX11_act 88 [some (.ref 83), none, none] [] h Q)))) : Vw G jX11_act 76 [some (.ref 83), some (.int v1), none] [] h Q :=
  s_iload_n dX11_act_76 rfl (s_bipush 6 dX11_act_77 (by decide) (s_icmp_eq 88 dX11_act_79 rfl (fun q2 => Vw.mask [true, false, false] ((K.1 q2))) (fun q2 => s_iload_n dX11_act_82 rfl (s_bipush 7 dX11_act_83 (by decide) (s_icmp_ne 103 dX11_act_85 rfl (fun q5 => s_iload_n dX11_act_103 rfl (s_bipush 8 dX11_act_104 (by decide) (s_icmp_eq 115 dX11_act_106 rfl (fun q8 => (((K.2 q2).1 q5).1 q8)) (fun q8 => s_iload_n dX11_act_109 rfl (s_bipush 9 dX11_act_110 (by decide) (s_icmp_ne 149 dX11_act_112 rfl (fun q11 => s_iload_n dX11_act_149 rfl (s_bipush 11 dX11_act_150 (by decide) (s_icmp_ne 191 dX11_act_152 rfl (fun q14 => s_iload_n dX11_act_191 rfl (s_bipush 12 dX11_act_192 (by decide) (s_icmp_ne 225 dX11_act_194 rfl (fun q17 => Vw.mask [false, false, false] (((((((K.2 q2).1 q5).2 q8).1 q11).1 q14).1 q17))) (fun q17 => s_aload_n dX11_act_197 rfl (Vw.mask [true, false, false] (s_callV (As := []) dX11_act_198 rfl lvX11_344 ⟨Nat.le_of_ble_eq_true rfl, Nat.le_of_ble_eq_true rfl⟩ (hi.sh rfl rfl) ⟨_, _, by decide, rfl⟩ rfl (Nat.le_of_ble_eq_true rfl) (((((((K.2 q2).1 q5).2 q8).1 q11).1 q14).2 q17)))))))) (fun q14 => s_aload_n dX11_act_155 rfl (s_aload_n dX11_act_156 rfl (s_iconst 0 dX11_act_157 (by decide) (s_bipush 20 dX11_act_158 (by decide) (Vw.mask [true, false, false] (s_callV (As := [.int 0, .int 20]) dX11_act_160 rfl lvX11_182 ⟨Nat.le_of_ble_eq_true rfl, Nat.le_of_ble_eq_true rfl⟩ (hi.sh rfl rfl) ⟨_, _, by decide, rfl⟩ rfl (Nat.le_of_ble_eq_true rfl) ((((((K.2 q2).1 q5).2 q8).1 q11).2 q14))))))))))) (fun q11 => ((((K.2 q2).1 q5).2 q8).2 q11)))))))) (fun q5 => Vw.mask [true, false, false] (((K.2 q2).2 q5))))))))
theorem bX11_act_88 {G : GX} {h : mH} {Q : mO → mH → Prop} (hi : Iv h) (K : WM G jX11_number [.ref 83, .int 1, .int 200] h (Aft G jX11_act 94 [none, none, none] [.ref 83] Q)) : Vw G jX11_act 88 [some (.ref 83), none, none] [] h Q :=
  s_aload_n dX11_act_88 rfl (s_aload_n dX11_act_89 rfl (s_iconst 1 dX11_act_90 (by decide) (s_sipush 200 dX11_act_91 (by decide) (Vw.mask [false, false, false] (s_callV (As := [.int 1, .int 200]) dX11_act_94 rfl lvX11_182 ⟨Nat.le_of_ble_eq_true rfl, Nat.le_of_ble_eq_true rfl⟩ (hi.sh rfl rfl) ⟨_, _, by decide, rfl⟩ rfl (Nat.le_of_ble_eq_true rfl) (K))))))
theorem bX11_act_97 {G : GX} {h : mH} {Q : mO → mH → Prop} {vs0 : Int32} (hi : Iv h) (K : WM G jX11_puts [.ref 83, .int vs0] h (Aft G jX11_act 97 [none, none, none] [] Q)) : Vw G jX11_act 97 [none, none, none] [.int vs0, .ref 83] h Q :=
  s_callV (As := [.int vs0]) dX11_act_97 rfl lvX11_337 ⟨Nat.le_of_ble_eq_true rfl, Nat.le_of_ble_eq_true rfl⟩ (hi.sh rfl rfl) ⟨_, _, by decide, rfl⟩ rfl (Nat.le_of_ble_eq_true rfl) (K)
theorem bX11_act_100 {G : GX} {h : mH} {Q : mO → mH → Prop} (hi : Iv h) (K : Vw G jX11_act 225 [none, none, none] [] h Q) : Vw G jX11_act 100 [none, none, none] [] h Q :=
  s_goto 225 dX11_act_100 rfl (K)
theorem bX11_act_115 {G : GX} {h : mH} {Q : mO → mH → Prop} {v1 : Int32} (hi : Iv h) (K : WM G jX11_number [.ref 83, .int 0, .int 3] h (Aft G jX11_act 119 [some (.ref 83), some (.int v1), none] [.ref 83] Q)) : Vw G jX11_act 115 [some (.ref 83), some (.int v1), none] [] h Q :=
  s_aload_n dX11_act_115 rfl (s_aload_n dX11_act_116 rfl (s_iconst 0 dX11_act_117 (by decide) (s_iconst 3 dX11_act_118 (by decide) (s_callV (As := [.int 0, .int 3]) dX11_act_119 rfl lvX11_182 ⟨Nat.le_of_ble_eq_true rfl, Nat.le_of_ble_eq_true rfl⟩ (hi.sh rfl rfl) ⟨_, _, by decide, rfl⟩ rfl (Nat.le_of_ble_eq_true rfl) (K)))))
theorem bX11_act_122 {G : GX} {h : mH} {Q : mO → mH → Prop} {v1 : Int32} {vs0 : Int32} (hi : Iv h) (K : WM G jX11_puts [.ref 83, .int vs0] h (Aft G jX11_act 122 [some (.ref 83), some (.int v1), none] [] Q)) : Vw G jX11_act 122 [some (.ref 83), some (.int v1), none] [.int vs0, .ref 83] h Q :=
  s_callV (As := [.int vs0]) dX11_act_122 rfl lvX11_337 ⟨Nat.le_of_ble_eq_true rfl, Nat.le_of_ble_eq_true rfl⟩ (hi.sh rfl rfl) ⟨_, _, by decide, rfl⟩ rfl (Nat.le_of_ble_eq_true rfl) (K)
theorem bX11_act_125 {G : GX} {h : mH} {Q : mO → mH → Prop} {v1 : Int32} (hi : Iv h) (K : (¬ v1 = 8 → WM G jX11_signed [.ref 83, .int 90] h (Aft G jX11_act 140 [none, none, none] [.ref 83] Q)) ∧ (v1 = 8 → WM G jX11_signed [.ref 83, .int 9] h (Aft G jX11_act 140 [none, none, none] [.ref 83] Q))) : Vw G jX11_act 125 [some (.ref 83), some (.int v1), none] [] h Q :=
  s_aload_n dX11_act_125 rfl (s_aload_n dX11_act_126 rfl (s_iload_n dX11_act_127 rfl (s_bipush 8 dX11_act_128 (by decide) (s_icmp_ne 138 dX11_act_130 rfl (fun q4 => s_bipush 90 dX11_act_138 (by decide) (Vw.mask [false, false, false] (s_callV (As := [.int 90]) dX11_act_140 rfl lvX11_202 ⟨Nat.le_of_ble_eq_true rfl, Nat.le_of_ble_eq_true rfl⟩ (hi.sh rfl rfl) ⟨_, _, by decide, rfl⟩ rfl (Nat.le_of_ble_eq_true rfl) ((K.1 q4))))) (fun q4 => s_bipush 9 dX11_act_133 (by decide) (s_goto 140 dX11_act_135 rfl (Vw.mask [false, false, false] (s_callV (As := [.int 9]) dX11_act_140 rfl lvX11_202 ⟨Nat.le_of_ble_eq_true rfl, Nat.le_of_ble_eq_true rfl⟩ (hi.sh rfl rfl) ⟨_, _, by decide, rfl⟩ rfl (Nat.le_of_ble_eq_true rfl) ((K.2 q4))))))))))
theorem bX11_act_143 {G : GX} {h : mH} {Q : mO → mH → Prop} {vs0 : Int32} (hi : Iv h) (K : WM G jX11_puts [.ref 83, .int vs0] h (Aft G jX11_act 143 [none, none, none] [] Q)) : Vw G jX11_act 143 [none, none, none] [.int vs0, .ref 83] h Q :=
  s_callV (As := [.int vs0]) dX11_act_143 rfl lvX11_337 ⟨Nat.le_of_ble_eq_true rfl, Nat.le_of_ble_eq_true rfl⟩ (hi.sh rfl rfl) ⟨_, _, by decide, rfl⟩ rfl (Nat.le_of_ble_eq_true rfl) (K)
theorem bX11_act_146 {G : GX} {h : mH} {Q : mO → mH → Prop} (hi : Iv h) (K : Vw G jX11_act 225 [none, none, none] [] h Q) : Vw G jX11_act 146 [none, none, none] [] h Q :=
  s_goto 225 dX11_act_146 rfl (K)
theorem bX11_act_163 {G : GX} {h : mH} {Q : mO → mH → Prop} {vs0 : Int32} (hi : Iv h) (K : WM G jX11_puts [.ref 83, .int vs0] h (Aft G jX11_act 163 [some (.ref 83), none, none] [] Q)) : Vw G jX11_act 163 [some (.ref 83), none, none] [.int vs0, .ref 83] h Q :=
  s_callV (As := [.int vs0]) dX11_act_163 rfl lvX11_337 ⟨Nat.le_of_ble_eq_true rfl, Nat.le_of_ble_eq_true rfl⟩ (hi.sh rfl rfl) ⟨_, _, by decide, rfl⟩ rfl (Nat.le_of_ble_eq_true rfl) (K)
theorem bX11_act_166 {G : GX} {h : mH} {Q : mO → mH → Prop} (hi : Iv h) (K : WM G jX11_puts [.ref 83, .int 0] h (Aft G jX11_act 168 [some (.ref 83), none, none] [] Q)) : Vw G jX11_act 166 [some (.ref 83), none, none] [] h Q :=
  s_aload_n dX11_act_166 rfl (s_iconst 0 dX11_act_167 (by decide) (s_callV (As := [.int 0]) dX11_act_168 rfl lvX11_337 ⟨Nat.le_of_ble_eq_true rfl, Nat.le_of_ble_eq_true rfl⟩ (hi.sh rfl rfl) ⟨_, _, by decide, rfl⟩ rfl (Nat.le_of_ble_eq_true rfl) (K)))
theorem bX11_act_171 {G : GX} {h : mH} {Q : mO → mH → Prop} (hi : Iv h) (K : ((fX11_isGood h) = 0 → Vw G jX11_act 225 [none, none, none] [] h Q) ∧ (¬ (fX11_isGood h) = 0 → WM G jX11_opens [.ref 83, .int 11, .int (gI h 83 47)] h (Aft G jX11_act 185 [none, none, none] [] Q))) : Vw G jX11_act 171 [some (.ref 83), none, none] [] h Q :=
  s_aload_n dX11_act_171 rfl (s_callV (As := []) dX11_act_172 rfl lvX11_172 ⟨Nat.le_of_ble_eq_true rfl, Nat.le_of_ble_eq_true rfl⟩ (hi.sh rfl rfl) ⟨_, _, by decide, rfl⟩ rfl (Nat.le_of_ble_eq_true rfl) (mX11_isGood hi   (s_if_eq 225 dX11_act_175 rfl (fun q2 => Vw.mask [false, false, false] ((K.1 q2))) (fun q2 => s_aload_n dX11_act_178 rfl (s_bipush 11 dX11_act_179 (by decide) (s_aload_n dX11_act_181 rfl (s_getI dX11_act_182 flX11_328 (Or.inl rfl) (hi.sh rfl rfl) (Vw.mask [false, false, false] (s_callV (As := [.int 11, .int (gI h 83 47)]) dX11_act_185 rfl lvX11_340 ⟨Nat.le_of_ble_eq_true rfl, Nat.le_of_ble_eq_true rfl⟩ (hi.sh rfl rfl) ⟨_, _, by decide, rfl⟩ rfl (Nat.le_of_ble_eq_true rfl) ((K.2 q2)))))))))))
theorem bX11_act_188 {G : GX} {h : mH} {Q : mO → mH → Prop} (hi : Iv h) (K : Vw G jX11_act 225 [none, none, none] [] h Q) : Vw G jX11_act 188 [none, none, none] [] h Q :=
  s_goto 225 dX11_act_188 rfl (K)
theorem bX11_act_201 {G : GX} {h : mH} {Q : mO → mH → Prop} (hi : Iv h) (K : WM G jX11_puts [.ref 83, .int 0] h (Aft G jX11_act 203 [some (.ref 83), none, none] [] Q)) : Vw G jX11_act 201 [some (.ref 83), none, none] [] h Q :=
  s_aload_n dX11_act_201 rfl (s_iconst 0 dX11_act_202 (by decide) (s_callV (As := [.int 0]) dX11_act_203 rfl lvX11_337 ⟨Nat.le_of_ble_eq_true rfl, Nat.le_of_ble_eq_true rfl⟩ (hi.sh rfl rfl) ⟨_, _, by decide, rfl⟩ rfl (Nat.le_of_ble_eq_true rfl) (K)))
theorem bX11_act_206 {G : GX} {h : mH} {Q : mO → mH → Prop} (hi : Iv h) (K : ((fX11_isGood h) = 0 → Vw G jX11_act 225 [none, none, none] [] h Q) ∧ (¬ (fX11_isGood h) = 0 → WM G jX11_opens [.ref 83, .int 12, .int ((gI h 83 47) - 1)] h (Aft G jX11_act 222 [none, none, none] [] Q))) : Vw G jX11_act 206 [some (.ref 83), none, none] [] h Q :=
  s_aload_n dX11_act_206 rfl (s_callV (As := []) dX11_act_207 rfl lvX11_172 ⟨Nat.le_of_ble_eq_true rfl, Nat.le_of_ble_eq_true rfl⟩ (hi.sh rfl rfl) ⟨_, _, by decide, rfl⟩ rfl (Nat.le_of_ble_eq_true rfl) (mX11_isGood hi   (s_if_eq 225 dX11_act_210 rfl (fun q2 => Vw.mask [false, false, false] ((K.1 q2))) (fun q2 => s_aload_n dX11_act_213 rfl (s_bipush 12 dX11_act_214 (by decide) (s_aload_n dX11_act_216 rfl (s_getI dX11_act_217 flX11_328 (Or.inl rfl) (hi.sh rfl rfl) (s_iconst 1 dX11_act_220 (by decide) (s_isub dX11_act_221 (Vw.mask [false, false, false] (s_callV (As := [.int 12, .int ((gI h 83 47) - 1)]) dX11_act_222 rfl lvX11_340 ⟨Nat.le_of_ble_eq_true rfl, Nat.le_of_ble_eq_true rfl⟩ (hi.sh rfl rfl) ⟨_, _, by decide, rfl⟩ rfl (Nat.le_of_ble_eq_true rfl) ((K.2 q2)))))))))))))
theorem bX11_act_225 {G : GX} {h : mH} {Q : mO → mH → Prop} (hi : Iv h) (K : Q (.inl none) h) : Vw G jX11_act 225 [none, none, none] [] h Q :=
  s_return dX11_act_225 rfl K
theorem eX11_act {G : GX} {h : mH} {Q : mO → mH → Prop} (hi : Iv h) (K : Vw G jX11_act 5 [some (.ref 83), some (.int (-1)), some (.int 6)] [] h Q) : WM G jX11_act [.ref 83] h Q :=
  WM.body (ls := [some (.ref 83), none, none]) rfl (by decide +kernel) rfl (Nat.le_of_ble_eq_true rfl) rfl ((bX11_act_0 hi  K))
theorem dX11_score_0 : decode cX11_score 0 = .ok (.aload_n 0, 1) := by decide +kernel
theorem dX11_score_1 : decode cX11_score 1 = .ok (.iconst 0, 1) := by decide +kernel
theorem dX11_score_2 : decode cX11_score 2 = .ok (.putfield 113, 3) := by decide +kernel
theorem dX11_score_5 : decode cX11_score 5 = .ok (.aload_n 0, 1) := by decide +kernel
theorem dX11_score_6 : decode cX11_score 6 = .ok (.iload_n 1, 1) := by decide +kernel
theorem dX11_score_7 : decode cX11_score 7 = .ok (.ifCond .lt 15, 3) := by decide +kernel
theorem dX11_score_10 : decode cX11_score 10 = .ok (.iload_n 1, 1) := by decide +kernel
theorem dX11_score_11 : decode cX11_score 11 = .ok (.aload_n 0, 1) := by decide +kernel
theorem dX11_score_12 : decode cX11_score 12 = .ok (.getfield 116, 3) := by decide +kernel
theorem dX11_score_15 : decode cX11_score 15 = .ok (.if_icmp .gt 7, 3) := by decide +kernel
theorem dX11_score_18 : decode cX11_score 18 = .ok (.iconst 1, 1) := by decide +kernel
theorem dX11_score_19 : decode cX11_score 19 = .ok (.goto 4, 3) := by decide +kernel
theorem dX11_score_22 : decode cX11_score 22 = .ok (.iconst 0, 1) := by decide +kernel
theorem dX11_score_23 : decode cX11_score 23 = .ok (.iconst 1, 1) := by decide +kernel
theorem dX11_score_24 : decode cX11_score 24 = .ok (.invokevirtual 209, 3) := by decide +kernel
theorem dX11_score_27 : decode cX11_score 27 = .ok (.ifCond .ne 5, 3) := by decide +kernel
theorem dX11_score_30 : decode cX11_score 30 = .ok (.iconst 0, 1) := by decide +kernel
theorem dX11_score_31 : decode cX11_score 31 = .ok (.ireturn, 1) := by decide +kernel
theorem dX11_score_32 : decode cX11_score 32 = .ok (.aload_n 0, 1) := by decide +kernel
theorem dX11_score_33 : decode cX11_score 33 = .ok (.iconst 0, 1) := by decide +kernel
theorem dX11_score_34 : decode cX11_score 34 = .ok (.putfield 116, 3) := by decide +kernel
theorem dX11_score_37 : decode cX11_score 37 = .ok (.aload_n 0, 1) := by decide +kernel
theorem dX11_score_38 : decode cX11_score 38 = .ok (.iconst (-1), 1) := by decide +kernel
theorem dX11_score_39 : decode cX11_score 39 = .ok (.putfield 28, 3) := by decide +kernel
theorem dX11_score_42 : decode cX11_score 42 = .ok (.aload_n 0, 1) := by decide +kernel
theorem dX11_score_43 : decode cX11_score 43 = .ok (.iconst 0, 1) := by decide +kernel
theorem dX11_score_44 : decode cX11_score 44 = .ok (.putfield 169, 3) := by decide +kernel
theorem dX11_score_47 : decode cX11_score 47 = .ok (.aload_n 0, 1) := by decide +kernel
theorem dX11_score_48 : decode cX11_score 48 = .ok (.iload_n 1, 1) := by decide +kernel
theorem dX11_score_49 : decode cX11_score 49 = .ok (.putfield 123, 3) := by decide +kernel
theorem dX11_score_52 : decode cX11_score 52 = .ok (.aload_n 0, 1) := by decide +kernel
theorem dX11_score_53 : decode cX11_score 53 = .ok (.iconst 0, 1) := by decide +kernel
theorem dX11_score_54 : decode cX11_score 54 = .ok (.putfield 126, 3) := by decide +kernel
theorem dX11_score_57 : decode cX11_score 57 = .ok (.aload_n 0, 1) := by decide +kernel
theorem dX11_score_58 : decode cX11_score 58 = .ok (.iconst 0, 1) := by decide +kernel
theorem dX11_score_59 : decode cX11_score 59 = .ok (.putfield 328, 3) := by decide +kernel
theorem dX11_score_62 : decode cX11_score 62 = .ok (.aload_n 0, 1) := by decide +kernel
theorem dX11_score_63 : decode cX11_score 63 = .ok (.iconst 0, 1) := by decide +kernel
theorem dX11_score_64 : decode cX11_score 64 = .ok (.putfield 334, 3) := by decide +kernel
theorem dX11_score_67 : decode cX11_score 67 = .ok (.aload_n 0, 1) := by decide +kernel
theorem dX11_score_68 : decode cX11_score 68 = .ok (.invokevirtual 176, 3) := by decide +kernel
theorem dX11_score_71 : decode cX11_score 71 = .ok (.aload_n 0, 1) := by decide +kernel
theorem dX11_score_72 : decode cX11_score 72 = .ok (.invokevirtual 172, 3) := by decide +kernel
theorem dX11_score_75 : decode cX11_score 75 = .ok (.ifCond .eq 40, 3) := by decide +kernel
theorem dX11_score_78 : decode cX11_score 78 = .ok (.aload_n 0, 1) := by decide +kernel
theorem dX11_score_79 : decode cX11_score 79 = .ok (.getfield 146, 3) := by decide +kernel
theorem dX11_score_82 : decode cX11_score 82 = .ok (.ifCond .eq 33, 3) := by decide +kernel
theorem dX11_score_85 : decode cX11_score 85 = .ok (.aload_n 0, 1) := by decide +kernel
theorem dX11_score_86 : decode cX11_score 86 = .ok (.bipush 41, 2) := by decide +kernel
theorem dX11_score_88 : decode cX11_score 88 = .ok (.invokevirtual 331, 3) := by decide +kernel
theorem dX11_score_91 : decode cX11_score 91 = .ok (.ifCond .eq 17, 3) := by decide +kernel
theorem dX11_score_94 : decode cX11_score 94 = .ok (.aload_n 0, 1) := by decide +kernel
theorem dX11_score_95 : decode cX11_score 95 = .ok (.getfield 334, 3) := by decide +kernel
theorem dX11_score_98 : decode cX11_score 98 = .ok (.ifCond .le 10, 3) := by decide +kernel
theorem dX11_score_101 : decode cX11_score 101 = .ok (.aload_n 0, 1) := by decide +kernel
theorem dX11_score_102 : decode cX11_score 102 = .ok (.invokevirtual 347, 3) := by decide +kernel
theorem dX11_score_105 : decode cX11_score 105 = .ok (.goto (-34), 3) := by decide +kernel
theorem dX11_score_108 : decode cX11_score 108 = .ok (.aload_n 0, 1) := by decide +kernel
theorem dX11_score_109 : decode cX11_score 109 = .ok (.invokevirtual 350, 3) := by decide +kernel
theorem dX11_score_112 : decode cX11_score 112 = .ok (.goto (-41), 3) := by decide +kernel
theorem dX11_score_115 : decode cX11_score 115 = .ok (.aload_n 0, 1) := by decide +kernel
theorem dX11_score_116 : decode cX11_score 116 = .ok (.getfield 334, 3) := by decide +kernel
theorem dX11_score_119 : decode cX11_score 119 = .ok (.ifCond .le 8, 3) := by decide +kernel
theorem dX11_score_122 : decode cX11_score 122 = .ok (.aload_n 0, 1) := by decide +kernel
theorem dX11_score_123 : decode cX11_score 123 = .ok (.iconst 1, 1) := by decide +kernel
theorem dX11_score_124 : decode cX11_score 124 = .ok (.invokevirtual 179, 3) := by decide +kernel
theorem dX11_score_127 : decode cX11_score 127 = .ok (.aload_n 0, 1) := by decide +kernel
theorem dX11_score_128 : decode cX11_score 128 = .ok (.invokevirtual 172, 3) := by decide +kernel
theorem dX11_score_131 : decode cX11_score 131 = .ok (.ifCond .ne 18, 3) := by decide +kernel
theorem dX11_score_134 : decode cX11_score 134 = .ok (.aload_n 0, 1) := by decide +kernel
theorem dX11_score_135 : decode cX11_score 135 = .ok (.getfield 32, 3) := by decide +kernel
theorem dX11_score_138 : decode cX11_score 138 = .ok (.iconst 0, 1) := by decide +kernel
theorem dX11_score_139 : decode cX11_score 139 = .ok (.dup2, 1) := by decide +kernel
theorem dX11_score_140 : decode cX11_score 140 = .ok (.iaload, 1) := by decide +kernel
theorem dX11_score_141 : decode cX11_score 141 = .ok (.iconst 1, 1) := by decide +kernel
theorem dX11_score_142 : decode cX11_score 142 = .ok (.iadd, 1) := by decide +kernel
theorem dX11_score_143 : decode cX11_score 143 = .ok (.iastore, 1) := by decide +kernel
theorem dX11_score_144 : decode cX11_score 144 = .ok (.aload_n 0, 1) := by decide +kernel
theorem dX11_score_145 : decode cX11_score 145 = .ok (.getfield 169, 3) := by decide +kernel
theorem dX11_score_148 : decode cX11_score 148 = .ok (.ireturn, 1) := by decide +kernel
theorem dX11_score_149 : decode cX11_score 149 = .ok (.aload_n 0, 1) := by decide +kernel
theorem dX11_score_150 : decode cX11_score 150 = .ok (.iconst 0, 1) := by decide +kernel
theorem dX11_score_151 : decode cX11_score 151 = .ok (.invokevirtual 337, 3) := by decide +kernel
theorem dX11_score_154 : decode cX11_score 154 = .ok (.aload_n 0, 1) := by decide +kernel
theorem dX11_score_155 : decode cX11_score 155 = .ok (.aload_n 0, 1) := by decide +kernel
theorem dX11_score_156 : decode cX11_score 156 = .ok (.getfield 80, 3) := by decide +kernel
theorem dX11_score_159 : decode cX11_score 159 = .ok (.aload_n 0, 1) := by decide +kernel
theorem dX11_score_160 : decode cX11_score 160 = .ok (.getfield 77, 3) := by decide +kernel
theorem dX11_score_163 : decode cX11_score 163 = .ok (.invokevirtual 222, 3) := by decide +kernel
theorem dX11_score_166 : decode cX11_score 166 = .ok (.iconst 0, 1) := by decide +kernel
theorem dX11_score_167 : decode cX11_score 167 = .ok (.ireturn, 1) := by decide +kernel
theorem bX11_score_0 {G : GX} {h : mH} {Q : mO → mH → Prop} {v1 : Int32} (hi : Iv h) (K : (v1 < 0 → WM G jX11_right [.ref 83, .int 0, .int 1] (pI h 83 0 0) (Aft G jX11_score 24 [some (.ref 83), some (.int v1)] [] Q)) ∧ (¬ v1 < 0 → (((gI (pI h 83 0 0) 83 9) < v1 → WM G jX11_right [.ref 83, .int 0, .int 1] (pI h 83 0 0) (Aft G jX11_score 24 [some (.ref 83), some (.int v1)] [] Q)) ∧ (¬ (gI (pI h 83 0 0) 83 9) < v1 → WM G jX11_right [.ref 83, .int 1, .int 1] (pI h 83 0 0) (Aft G jX11_score 24 [some (.ref 83), some (.int v1)] [] Q))))) : Vw G jX11_score 0 [some (.ref 83), some (.int v1)] [] h Q :=
  s_aload_n dX11_score_0 rfl (s_iconst 0 dX11_score_1 (by decide) (s_putI dX11_score_2 flX11_113 ff10_0 rfl (hi.sh rfl rfl) (s_aload_n dX11_score_5 rfl (s_iload_n dX11_score_6 rfl (s_if_lt 22 dX11_score_7 rfl (fun q5 => s_iconst 0 dX11_score_22 (by decide) (s_iconst 1 dX11_score_23 (by decide) (s_callV (As := [.int 0, .int 1]) dX11_score_24 rfl lvX11_209 ⟨Nat.le_of_ble_eq_true rfl, Nat.le_of_ble_eq_true rfl⟩ (hi.sh rfl rfl) ⟨_, _, by decide, rfl⟩ rfl (Nat.le_of_ble_eq_true rfl) ((K.1 q5))))) (fun q5 => s_iload_n dX11_score_10 rfl (s_aload_n dX11_score_11 rfl (s_getI dX11_score_12 flX11_116 (Or.inl rfl) (hi.sh rfl rfl) (s_icmp_gt 22 dX11_score_15 rfl (fun q9 => s_iconst 0 dX11_score_22 (by decide) (s_iconst 1 dX11_score_23 (by decide) (s_callV (As := [.int 0, .int 1]) dX11_score_24 rfl lvX11_209 ⟨Nat.le_of_ble_eq_true rfl, Nat.le_of_ble_eq_true rfl⟩ (hi.sh rfl rfl) ⟨_, _, by decide, rfl⟩ rfl (Nat.le_of_ble_eq_true rfl) (((K.2 q5).1 q9))))) (fun q9 => s_iconst 1 dX11_score_18 (by decide) (s_goto 23 dX11_score_19 rfl (s_iconst 1 dX11_score_23 (by decide) (s_callV (As := [.int 1, .int 1]) dX11_score_24 rfl lvX11_209 ⟨Nat.le_of_ble_eq_true rfl, Nat.le_of_ble_eq_true rfl⟩ (hi.sh rfl rfl) ⟨_, _, by decide, rfl⟩ rfl (Nat.le_of_ble_eq_true rfl) (((K.2 q5).2 q9)))))))))))))))
theorem bX11_score_27 {G : GX} {h : mH} {Q : mO → mH → Prop} {v1 : Int32} {vs0 : Int32} (hi : Iv h) (K : (¬ vs0 = 0 → WM G jX11_steps [.ref 83] (pI (pI (pI (pI (pI (pI (pI h 83 9 0) 83 11 (-1)) 83 10 0) 83 13 v1) 83 14 0) 83 47 0) 83 48 0) (Aft G jX11_score 68 [some (.ref 83), none] [] Q)) ∧ (vs0 = 0 → Q (.inl (some (.int 0))) h)) : Vw G jX11_score 27 [some (.ref 83), some (.int v1)] [.int vs0] h Q :=
  s_if_ne 32 dX11_score_27 rfl (fun q0 => s_aload_n dX11_score_32 rfl (s_iconst 0 dX11_score_33 (by decide) (s_putI dX11_score_34 flX11_116 ff10_9 rfl (hi.sh rfl rfl) (s_aload_n dX11_score_37 rfl (s_iconst (-1) dX11_score_38 (by decide) (s_putI dX11_score_39 flX11_28 ff10_11 rfl (hi.sh rfl rfl) (s_aload_n dX11_score_42 rfl (s_iconst 0 dX11_score_43 (by decide) (s_putI dX11_score_44 flX11_169 ff10_10 rfl (hi.sh rfl rfl) (s_aload_n dX11_score_47 rfl (s_iload_n dX11_score_48 rfl (s_putI dX11_score_49 flX11_123 ff10_13 rfl (hi.sh rfl rfl) (s_aload_n dX11_score_52 rfl (s_iconst 0 dX11_score_53 (by decide) (s_putI dX11_score_54 flX11_126 ff10_14 rfl (hi.sh rfl rfl) (s_aload_n dX11_score_57 rfl (s_iconst 0 dX11_score_58 (by decide) (s_putI dX11_score_59 flX11_328 ff10_47 rfl (hi.sh rfl rfl) (s_aload_n dX11_score_62 rfl (s_iconst 0 dX11_score_63 (by decide) (s_putI dX11_score_64 flX11_334 ff10_48 rfl (hi.sh rfl rfl) (s_aload_n dX11_score_67 rfl (Vw.mask [true, false] (s_callV (As := []) dX11_score_68 rfl lvX11_176 ⟨Nat.le_of_ble_eq_true rfl, Nat.le_of_ble_eq_true rfl⟩ (hi.sh rfl rfl) ⟨_, _, by decide, rfl⟩ rfl (Nat.le_of_ble_eq_true rfl) ((K.1 q0)))))))))))))))))))))))))) (fun q0 => s_iconst 0 dX11_score_30 (by decide) (s_ireturn dX11_score_31 rfl (K.2 q0)))
theorem bX11_score_71 {G : GX} {h : mH} {Q : mO → mH → Prop} (hi : Iv h) (K : ((fX11_isGood h) = 0 → Vw G jX11_score 115 [some (.ref 83), none] [] h Q) ∧ (¬ (fX11_isGood h) = 0 → (((gI h 83 15) = 0 → Vw G jX11_score 115 [some (.ref 83), none] [] h Q) ∧ (¬ (gI h 83 15) = 0 → (((fX11_isSign h 41) = 0 → Vw G jX11_score 108 [some (.ref 83), none] [] h Q) ∧ (¬ (fX11_isSign h 41) = 0 → (((gI h 83 48) ≤ 0 → Vw G jX11_score 108 [some (.ref 83), none] [] h Q) ∧ (¬ (gI h 83 48) ≤ 0 → WM G jX11_closes [.ref 83] h (Aft G jX11_score 102 [some (.ref 83), none] [] Q))))))))) : Vw G jX11_score 71 [some (.ref 83), none] [] h Q :=
  s_aload_n dX11_score_71 rfl (s_callV (As := []) dX11_score_72 rfl lvX11_172 ⟨Nat.le_of_ble_eq_true rfl, Nat.le_of_ble_eq_true rfl⟩ (hi.sh rfl rfl) ⟨_, _, by decide, rfl⟩ rfl (Nat.le_of_ble_eq_true rfl) (mX11_isGood hi   (s_if_eq 115 dX11_score_75 rfl (fun q2 => (K.1 q2)) (fun q2 => s_aload_n dX11_score_78 rfl (s_getI dX11_score_79 flX11_146 (Or.inl rfl) (hi.sh rfl rfl) (s_if_eq 115 dX11_score_82 rfl (fun q5 => ((K.2 q2).1 q5)) (fun q5 => s_aload_n dX11_score_85 rfl (s_bipush 41 dX11_score_86 (by decide) (s_callV (As := [.int 41]) dX11_score_88 rfl lvX11_331 ⟨Nat.le_of_ble_eq_true rfl, Nat.le_of_ble_eq_true rfl⟩ (hi.sh rfl rfl) ⟨_, _, by decide, rfl⟩ rfl (Nat.le_of_ble_eq_true rfl) (mX11_isSign hi   (s_if_eq 108 dX11_score_91 rfl (fun q9 => (((K.2 q2).2 q5).1 q9)) (fun q9 => s_aload_n dX11_score_94 rfl (s_getI dX11_score_95 flX11_334 (Or.inl rfl) (hi.sh rfl rfl) (s_if_le 108 dX11_score_98 rfl (fun q12 => ((((K.2 q2).2 q5).2 q9).1 q12)) (fun q12 => s_aload_n dX11_score_101 rfl (s_callV (As := []) dX11_score_102 rfl lvX11_347 ⟨Nat.le_of_ble_eq_true rfl, Nat.le_of_ble_eq_true rfl⟩ (hi.sh rfl rfl) ⟨_, _, by decide, rfl⟩ rfl (Nat.le_of_ble_eq_true rfl) (((((K.2 q2).2 q5).2 q9).2 q12))))))))))))))))))
theorem bX11_score_105 {G : GX} {h : mH} {Q : mO → mH → Prop} (hi : Iv h) (K : Vw G jX11_score 71 [some (.ref 83), none] [] h Q) : Vw G jX11_score 105 [some (.ref 83), none] [] h Q :=
  s_goto 71 dX11_score_105 rfl (K)
theorem bX11_score_108 {G : GX} {h : mH} {Q : mO → mH → Prop} (hi : Iv h) (K : WM G jX11_act [.ref 83] h (Aft G jX11_score 109 [some (.ref 83), none] [] Q)) : Vw G jX11_score 108 [some (.ref 83), none] [] h Q :=
  s_aload_n dX11_score_108 rfl (s_callV (As := []) dX11_score_109 rfl lvX11_350 ⟨Nat.le_of_ble_eq_true rfl, Nat.le_of_ble_eq_true rfl⟩ (hi.sh rfl rfl) ⟨_, _, by decide, rfl⟩ rfl (Nat.le_of_ble_eq_true rfl) (K))
theorem bX11_score_112 {G : GX} {h : mH} {Q : mO → mH → Prop} (hi : Iv h) (K : Vw G jX11_score 71 [some (.ref 83), none] [] h Q) : Vw G jX11_score 112 [some (.ref 83), none] [] h Q :=
  s_goto 71 dX11_score_112 rfl (K)
theorem bX11_score_115 {G : GX} {h : mH} {Q : mO → mH → Prop} (hi : Iv h) (K : ((gI h 83 48) ≤ 0 → Vw G jX11_score 127 [some (.ref 83), none] [] h Q) ∧ (¬ (gI h 83 48) ≤ 0 → WM G jX11_wrong [.ref 83, .int 1] h (Aft G jX11_score 124 [some (.ref 83), none] [] Q))) : Vw G jX11_score 115 [some (.ref 83), none] [] h Q :=
  s_aload_n dX11_score_115 rfl (s_getI dX11_score_116 flX11_334 (Or.inl rfl) (hi.sh rfl rfl) (s_if_le 127 dX11_score_119 rfl (fun q2 => (K.1 q2)) (fun q2 => s_aload_n dX11_score_122 rfl (s_iconst 1 dX11_score_123 (by decide) (s_callV (As := [.int 1]) dX11_score_124 rfl lvX11_179 ⟨Nat.le_of_ble_eq_true rfl, Nat.le_of_ble_eq_true rfl⟩ (hi.sh rfl rfl) ⟨_, _, by decide, rfl⟩ rfl (Nat.le_of_ble_eq_true rfl) ((K.2 q2)))))))
theorem bX11_score_127 {G : GX} {h : mH} {Q : mO → mH → Prop} (hi : Iv h) (K : (¬ (fX11_isGood h) = 0 → WM G jX11_puts [.ref 83, .int 0] h (Aft G jX11_score 151 [some (.ref 83), none] [] Q)) ∧ ((fX11_isGood h) = 0 → Q (.inl (some (.int (gI (pI h 90 0 ((gI h 90 0) + 1)) 83 10)))) (pI h 90 0 ((gI h 90 0) + 1)))) : Vw G jX11_score 127 [some (.ref 83), none] [] h Q :=
  s_aload_n dX11_score_127 rfl (s_callV (As := []) dX11_score_128 rfl lvX11_172 ⟨Nat.le_of_ble_eq_true rfl, Nat.le_of_ble_eq_true rfl⟩ (hi.sh rfl rfl) ⟨_, _, by decide, rfl⟩ rfl (Nat.le_of_ble_eq_true rfl) (mX11_isGood hi   (s_if_ne 149 dX11_score_131 rfl (fun q2 => s_aload_n dX11_score_149 rfl (s_iconst 0 dX11_score_150 (by decide) (s_callV (As := [.int 0]) dX11_score_151 rfl lvX11_337 ⟨Nat.le_of_ble_eq_true rfl, Nat.le_of_ble_eq_true rfl⟩ (hi.sh rfl rfl) ⟨_, _, by decide, rfl⟩ rfl (Nat.le_of_ble_eq_true rfl) ((K.1 q2))))) (fun q2 => s_aload_n dX11_score_134 rfl (s_getR (v := .ref 90) dX11_score_135 flX11_32 rfl (hi.sh rfl rfl) (hi.rf (o := 83) (k := 12) (d := 7) rfl rfl) (s_iconst 0 dX11_score_138 (by decide) (s_dup2ir dX11_score_139 (s_iaload dX11_score_140 (hi.sh rfl rfl) (by unfold vp_in; decide) (s_iconst 1 dX11_score_141 (by decide) (s_iadd dX11_score_142 (s_iastore dX11_score_143 (hi.sh rfl rfl) (by unfold vp_in; decide) (s_aload_n dX11_score_144 rfl (s_getI dX11_score_145 flX11_169 (Or.inl rfl) (hi.sh rfl rfl) (s_ireturn dX11_score_148 rfl (K.2 q2)))))))))))))))
theorem bX11_score_154 {G : GX} {h : mH} {Q : mO → mH → Prop} (hi : Iv h) (K : WM G jX11_copies [.ref 83, .ref 105, .ref 104] h (Aft G jX11_score 163 [none, none] [] Q)) : Vw G jX11_score 154 [some (.ref 83), none] [] h Q :=
  s_aload_n dX11_score_154 rfl (s_aload_n dX11_score_155 rfl (s_getR (v := .ref 105) dX11_score_156 flX11_80 rfl (hi.sh rfl rfl) (hi.rf (o := 83) (k := 43) (d := 22) rfl rfl) (s_aload_n dX11_score_159 rfl (s_getR (v := .ref 104) dX11_score_160 flX11_77 rfl (hi.sh rfl rfl) (hi.rf (o := 83) (k := 42) (d := 21) rfl rfl) (Vw.mask [false, false] (s_callV (As := [.ref 105, .ref 104]) dX11_score_163 rfl lvX11_222 ⟨Nat.le_of_ble_eq_true rfl, Nat.le_of_ble_eq_true rfl⟩ (hi.sh rfl rfl) ⟨_, _, by decide, rfl⟩ rfl (Nat.le_of_ble_eq_true rfl) (K)))))))
theorem bX11_score_166 {G : GX} {h : mH} {Q : mO → mH → Prop} (hi : Iv h) (K : Q (.inl (some (.int 0))) h) : Vw G jX11_score 166 [none, none] [] h Q :=
  s_iconst 0 dX11_score_166 (by decide) (s_ireturn dX11_score_167 rfl K)
theorem eX11_score {G : GX} {h : mH} {Q : mO → mH → Prop} {v1 : Int32} (hi : Iv h) (K : (v1 < 0 → WM G jX11_right [.ref 83, .int 0, .int 1] (pI h 83 0 0) (Aft G jX11_score 24 [some (.ref 83), some (.int v1)] [] Q)) ∧ (¬ v1 < 0 → (((gI (pI h 83 0 0) 83 9) < v1 → WM G jX11_right [.ref 83, .int 0, .int 1] (pI h 83 0 0) (Aft G jX11_score 24 [some (.ref 83), some (.int v1)] [] Q)) ∧ (¬ (gI (pI h 83 0 0) 83 9) < v1 → WM G jX11_right [.ref 83, .int 1, .int 1] (pI h 83 0 0) (Aft G jX11_score 24 [some (.ref 83), some (.int v1)] [] Q))))) : WM G jX11_score [.ref 83, .int v1] h Q :=
  WM.body (ls := [some (.ref 83), some (.int v1)]) rfl (by decide +kernel) rfl (Nat.le_of_ble_eq_true rfl) rfl ((bX11_score_0 hi  K))
theorem dX11_penGoing_0 : decode cX11_penGoing 0 = .ok (.aload_n 0, 1) := by decide +kernel
theorem dX11_penGoing_1 : decode cX11_penGoing 1 = .ok (.getfield 353, 3) := by decide +kernel
theorem dX11_penGoing_4 : decode cX11_penGoing 4 = .ok (.ifCond .eq 9, 3) := by decide +kernel
theorem dX11_penGoing_7 : decode cX11_penGoing 7 = .ok (.iconst 1, 1) := by decide +kernel
theorem dX11_penGoing_8 : decode cX11_penGoing 8 = .ok (.iload_n 1, 1) := by decide +kernel
theorem dX11_penGoing_9 : decode cX11_penGoing 9 = .ok (.isub, 1) := by decide +kernel
theorem dX11_penGoing_10 : decode cX11_penGoing 10 = .ok (.goto 4, 3) := by decide +kernel
theorem dX11_penGoing_13 : decode cX11_penGoing 13 = .ok (.iload_n 1, 1) := by decide +kernel
theorem dX11_penGoing_14 : decode cX11_penGoing 14 = .ok (.istore_n 2, 1) := by decide +kernel
theorem dX11_penGoing_15 : decode cX11_penGoing 15 = .ok (.aload_n 0, 1) := by decide +kernel
theorem dX11_penGoing_16 : decode cX11_penGoing 16 = .ok (.aload_n 0, 1) := by decide +kernel
theorem dX11_penGoing_17 : decode cX11_penGoing 17 = .ok (.getfield 95, 3) := by decide +kernel
theorem dX11_penGoing_20 : decode cX11_penGoing 20 = .ok (.iconst 0, 1) := by decide +kernel
theorem dX11_penGoing_21 : decode cX11_penGoing 21 = .ok (.aload_n 0, 1) := by decide +kernel
theorem dX11_penGoing_22 : decode cX11_penGoing 22 = .ok (.getfield 356, 3) := by decide +kernel
theorem dX11_penGoing_25 : decode cX11_penGoing 25 = .ok (.iload_n 2, 1) := by decide +kernel
theorem dX11_penGoing_26 : decode cX11_penGoing 26 = .ok (.invokevirtual 256, 3) := by decide +kernel
theorem dX11_penGoing_29 : decode cX11_penGoing 29 = .ok (.istore_n 3, 1) := by decide +kernel
theorem dX11_penGoing_30 : decode cX11_penGoing 30 = .ok (.iconst 0, 1) := by decide +kernel
theorem dX11_penGoing_31 : decode cX11_penGoing 31 = .ok (.istore 4, 2) := by decide +kernel
theorem dX11_penGoing_33 : decode cX11_penGoing 33 = .ok (.iload 4, 2) := by decide +kernel
theorem dX11_penGoing_35 : decode cX11_penGoing 35 = .ok (.aload_n 0, 1) := by decide +kernel
theorem dX11_penGoing_36 : decode cX11_penGoing 36 = .ok (.getfield 219, 3) := by decide +kernel
theorem dX11_penGoing_39 : decode cX11_penGoing 39 = .ok (.if_icmp .ge 45, 3) := by decide +kernel
theorem dX11_penGoing_42 : decode cX11_penGoing 42 = .ok (.iload_n 3, 1) := by decide +kernel
theorem dX11_penGoing_43 : decode cX11_penGoing 43 = .ok (.aload_n 0, 1) := by decide +kernel
theorem dX11_penGoing_44 : decode cX11_penGoing 44 = .ok (.getfield 22, 3) := by decide +kernel
theorem dX11_penGoing_47 : decode cX11_penGoing 47 = .ok (.iconst 3, 1) := by decide +kernel
theorem dX11_penGoing_48 : decode cX11_penGoing 48 = .ok (.iload 4, 2) := by decide +kernel
theorem dX11_penGoing_50 : decode cX11_penGoing 50 = .ok (.imul, 1) := by decide +kernel
theorem dX11_penGoing_51 : decode cX11_penGoing 51 = .ok (.iaload, 1) := by decide +kernel
theorem dX11_penGoing_52 : decode cX11_penGoing 52 = .ok (.aload_n 0, 1) := by decide +kernel
theorem dX11_penGoing_53 : decode cX11_penGoing 53 = .ok (.getfield 356, 3) := by decide +kernel
theorem dX11_penGoing_56 : decode cX11_penGoing 56 = .ok (.if_icmp .gt 19, 3) := by decide +kernel
theorem dX11_penGoing_59 : decode cX11_penGoing 59 = .ok (.aload_n 0, 1) := by decide +kernel
theorem dX11_penGoing_60 : decode cX11_penGoing 60 = .ok (.getfield 22, 3) := by decide +kernel
theorem dX11_penGoing_63 : decode cX11_penGoing 63 = .ok (.iconst 3, 1) := by decide +kernel
theorem dX11_penGoing_64 : decode cX11_penGoing 64 = .ok (.iload 4, 2) := by decide +kernel
theorem dX11_penGoing_66 : decode cX11_penGoing 66 = .ok (.imul, 1) := by decide +kernel
theorem dX11_penGoing_67 : decode cX11_penGoing 67 = .ok (.iconst 1, 1) := by decide +kernel
theorem dX11_penGoing_68 : decode cX11_penGoing 68 = .ok (.iadd, 1) := by decide +kernel
theorem dX11_penGoing_69 : decode cX11_penGoing 69 = .ok (.iload_n 2, 1) := by decide +kernel
theorem dX11_penGoing_70 : decode cX11_penGoing 70 = .ok (.iadd, 1) := by decide +kernel
theorem dX11_penGoing_71 : decode cX11_penGoing 71 = .ok (.iaload, 1) := by decide +kernel
theorem dX11_penGoing_72 : decode cX11_penGoing 72 = .ok (.goto 4, 3) := by decide +kernel
theorem dX11_penGoing_75 : decode cX11_penGoing 75 = .ok (.iconst 0, 1) := by decide +kernel
theorem dX11_penGoing_76 : decode cX11_penGoing 76 = .ok (.iadd, 1) := by decide +kernel
theorem dX11_penGoing_77 : decode cX11_penGoing 77 = .ok (.istore_n 3, 1) := by decide +kernel
theorem dX11_penGoing_78 : decode cX11_penGoing 78 = .ok (.iinc 4 1, 3) := by decide +kernel
theorem dX11_penGoing_81 : decode cX11_penGoing 81 = .ok (.goto (-48), 3) := by decide +kernel
theorem dX11_penGoing_84 : decode cX11_penGoing 84 = .ok (.iload_n 3, 1) := by decide +kernel
theorem dX11_penGoing_85 : decode cX11_penGoing 85 = .ok (.ireturn, 1) := by decide +kernel
theorem bX11_penGoing_0 {G : GX} {h : mH} {Q : mO → mH → Prop} {v1 : Int32} (hi : Iv h) (K : ((gI h 83 53) = 0 → WM G jX11_penOf [.ref 83, .ref 110, .int 0, .int (gI h 83 52), .int v1] h (Aft G jX11_penGoing 26 [some (.ref 83), none, some (.int v1), none, none] [] Q)) ∧ (¬ (gI h 83 53) = 0 → WM G jX11_penOf [.ref 83, .ref 110, .int 0, .int (gI h 83 52), .int (1 - v1)] h (Aft G jX11_penGoing 26 [some (.ref 83), none, some (.int (1 - v1)), none, none] [] Q))) : Vw G jX11_penGoing 0 [some (.ref 83), some (.int v1), none, none, none] [] h Q :=
  s_aload_n dX11_penGoing_0 rfl (s_getI dX11_penGoing_1 flX11_353 (Or.inr rfl) (hi.sh rfl rfl) (s_if_eq 13 dX11_penGoing_4 rfl (fun q2 => s_iload_n dX11_penGoing_13 rfl (s_istore_n dX11_penGoing_14 (Nat.le_of_ble_eq_true rfl) rfl (s_aload_n dX11_penGoing_15 rfl (s_aload_n dX11_penGoing_16 rfl (s_getR (v := .ref 110) dX11_penGoing_17 flX11_95 rfl (hi.sh rfl rfl) (hi.rf (o := 83) (k := 50) (d := 27) rfl rfl) (s_iconst 0 dX11_penGoing_20 (by decide) (s_aload_n dX11_penGoing_21 rfl (s_getI dX11_penGoing_22 flX11_356 (Or.inl rfl) (hi.sh rfl rfl) (s_iload_n dX11_penGoing_25 rfl (Vw.mask [true, false, true, false, false] (s_callV (As := [.ref 110, .int 0, .int (gI h 83 52), .int v1]) dX11_penGoing_26 rfl lvX11_256 ⟨Nat.le_of_ble_eq_true rfl, Nat.le_of_ble_eq_true rfl⟩ (hi.sh rfl rfl) ⟨_, _, by decide, rfl⟩ rfl (Nat.le_of_ble_eq_true rfl) ((K.1 q2))))))))))))) (fun q2 => s_iconst 1 dX11_penGoing_7 (by decide) (s_iload_n dX11_penGoing_8 rfl (s_isub dX11_penGoing_9 (s_goto 14 dX11_penGoing_10 rfl (s_istore_n dX11_penGoing_14 (Nat.le_of_ble_eq_true rfl) rfl (s_aload_n dX11_penGoing_15 rfl (s_aload_n dX11_penGoing_16 rfl (s_getR (v := .ref 110) dX11_penGoing_17 flX11_95 rfl (hi.sh rfl rfl) (hi.rf (o := 83) (k := 50) (d := 27) rfl rfl) (s_iconst 0 dX11_penGoing_20 (by decide) (s_aload_n dX11_penGoing_21 rfl (s_getI dX11_penGoing_22 flX11_356 (Or.inl rfl) (hi.sh rfl rfl) (s_iload_n dX11_penGoing_25 rfl (Vw.mask [true, false, true, false, false] (s_callV (As := [.ref 110, .int 0, .int (gI h 83 52), .int (1 - v1)]) dX11_penGoing_26 rfl lvX11_256 ⟨Nat.le_of_ble_eq_true rfl, Nat.le_of_ble_eq_true rfl⟩ (hi.sh rfl rfl) ⟨_, _, by decide, rfl⟩ rfl (Nat.le_of_ble_eq_true rfl) ((K.2 q2))))))))))))))))))
theorem bX11_penGoing_29 {G : GX} {h : mH} {Q : mO → mH → Prop} {v2 : Int32} {vs0 : Int32} (hi : Iv h) (K : Vw G jX11_penGoing 33 [some (.ref 83), none, some (.int v2), some (.int vs0), some (.int 0)] [] h Q) : Vw G jX11_penGoing 29 [some (.ref 83), none, some (.int v2), none, none] [.int vs0] h Q :=
  s_istore_n dX11_penGoing_29 (Nat.le_of_ble_eq_true rfl) rfl (s_iconst 0 dX11_penGoing_30 (by decide) (s_istore dX11_penGoing_31 (Nat.le_of_ble_eq_true rfl) rfl (K)))
theorem bX11_penGoing_33 {G : GX} {h : mH} {Q : mO → mH → Prop} {v2 : Int32} {v3 : Int32} {v4 : Int32} (hi : Iv h) (K : ((gI h 83 2) ≤ v4 → Q (.inl (some (.int v3))) h) ∧ (¬ (gI h 83 2) ≤ v4 → (vp_in (3 * v4) 12 ∧ (((gI h 83 52) < (gI h 88 (Int32.toNatClampNeg (3 * v4))) → Vw G jX11_penGoing 33 [some (.ref 83), none, some (.int v2), some (.int (v3 + 0)), some (.int (v4 + 1))] [] h Q) ∧ (¬ (gI h 83 52) < (gI h 88 (Int32.toNatClampNeg (3 * v4))) → (vp_in (((3 * v4) + 1) + v2) 12 ∧ Vw G jX11_penGoing 33 [some (.ref 83), none, some (.int v2), some (.int (v3 + (gI h 88 (Int32.toNatClampNeg (((3 * v4) + 1) + v2))))), some (.int (v4 + 1))] [] h Q)))))) : Vw G jX11_penGoing 33 [some (.ref 83), none, some (.int v2), some (.int v3), some (.int v4)] [] h Q :=
  s_iload dX11_penGoing_33 rfl (s_aload_n dX11_penGoing_35 rfl (s_getI dX11_penGoing_36 flX11_219 (Or.inl rfl) (hi.sh rfl rfl) (s_icmp_ge 84 dX11_penGoing_39 rfl (fun q3 => s_iload_n dX11_penGoing_84 rfl (s_ireturn dX11_penGoing_85 rfl (K.1 q3))) (fun q3 => s_iload_n dX11_penGoing_42 rfl (s_aload_n dX11_penGoing_43 rfl (s_getR (v := .ref 88) dX11_penGoing_44 flX11_22 rfl (hi.sh rfl rfl) (hi.rf (o := 83) (k := 7) (d := 5) rfl rfl) (s_iconst 3 dX11_penGoing_47 (by decide) (s_iload dX11_penGoing_48 rfl (s_imul dX11_penGoing_50 (s_iaload dX11_penGoing_51 (hi.sh rfl rfl) (K.2 q3).1 (s_aload_n dX11_penGoing_52 rfl (s_getI dX11_penGoing_53 flX11_356 (Or.inl rfl) (hi.sh rfl rfl) (s_icmp_gt 75 dX11_penGoing_56 rfl (fun q13 => s_iconst 0 dX11_penGoing_75 (by decide) (s_iadd dX11_penGoing_76 (s_istore_n dX11_penGoing_77 (Nat.le_of_ble_eq_true rfl) rfl (s_iinc 1 dX11_penGoing_78 rfl (by decide) (Nat.le_of_ble_eq_true rfl) rfl (s_goto 33 dX11_penGoing_81 rfl (((K.2 q3).2.1 q13))))))) (fun q13 => s_aload_n dX11_penGoing_59 rfl (s_getR (v := .ref 88) dX11_penGoing_60 flX11_22 rfl (hi.sh rfl rfl) (hi.rf (o := 83) (k := 7) (d := 5) rfl rfl) (s_iconst 3 dX11_penGoing_63 (by decide) (s_iload dX11_penGoing_64 rfl (s_imul dX11_penGoing_66 (s_iconst 1 dX11_penGoing_67 (by decide) (s_iadd dX11_penGoing_68 (s_iload_n dX11_penGoing_69 rfl (s_iadd dX11_penGoing_70 (s_iaload dX11_penGoing_71 (hi.sh rfl rfl) ((K.2 q3).2.2 q13).1 (s_goto 76 dX11_penGoing_72 rfl (s_iadd dX11_penGoing_76 (s_istore_n dX11_penGoing_77 (Nat.le_of_ble_eq_true rfl) rfl (s_iinc 1 dX11_penGoing_78 rfl (by decide) (Nat.le_of_ble_eq_true rfl) rfl (s_goto 33 dX11_penGoing_81 rfl (((K.2 q3).2.2 q13).2)))))))))))))))))))))))))))))
theorem eX11_penGoing {G : GX} {h : mH} {Q : mO → mH → Prop} {v1 : Int32} (hi : Iv h) (K : ((gI h 83 53) = 0 → WM G jX11_penOf [.ref 83, .ref 110, .int 0, .int (gI h 83 52), .int v1] h (Aft G jX11_penGoing 26 [some (.ref 83), none, some (.int v1), none, none] [] Q)) ∧ (¬ (gI h 83 53) = 0 → WM G jX11_penOf [.ref 83, .ref 110, .int 0, .int (gI h 83 52), .int (1 - v1)] h (Aft G jX11_penGoing 26 [some (.ref 83), none, some (.int (1 - v1)), none, none] [] Q))) : WM G jX11_penGoing [.ref 83, .int v1] h Q :=
  WM.body (ls := [some (.ref 83), some (.int v1), none, none, none]) rfl (by decide +kernel) rfl (Nat.le_of_ble_eq_true rfl) rfl ((bX11_penGoing_0 hi  K))
theorem dX11_cellGoing_0 : decode cX11_cellGoing 0 = .ok (.aload_n 0, 1) := by decide +kernel
theorem dX11_cellGoing_1 : decode cX11_cellGoing 1 = .ok (.iconst 0, 1) := by decide +kernel
theorem dX11_cellGoing_2 : decode cX11_cellGoing 2 = .ok (.invokevirtual 359, 3) := by decide +kernel
theorem dX11_cellGoing_5 : decode cX11_cellGoing 5 = .ok (.aload_n 0, 1) := by decide +kernel
theorem dX11_cellGoing_6 : decode cX11_cellGoing 6 = .ok (.iconst 1, 1) := by decide +kernel
theorem dX11_cellGoing_7 : decode cX11_cellGoing 7 = .ok (.invokevirtual 359, 3) := by decide +kernel
theorem dX11_cellGoing_10 : decode cX11_cellGoing 10 = .ok (.invokestatic 272, 3) := by decide +kernel
theorem dX11_cellGoing_13 : decode cX11_cellGoing 13 = .ok (.ireturn, 1) := by decide +kernel
theorem bX11_cellGoing_0 {G : GX} {h : mH} {Q : mO → mH → Prop} (hi : Iv h) (K : WM G jX11_penGoing [.ref 83, .int 0] h (Aft G jX11_cellGoing 2 [some (.ref 83)] [] Q)) : Vw G jX11_cellGoing 0 [some (.ref 83)] [] h Q :=
  s_aload_n dX11_cellGoing_0 rfl (s_iconst 0 dX11_cellGoing_1 (by decide) (s_callV (As := [.int 0]) dX11_cellGoing_2 rfl lvX11_359 ⟨Nat.le_of_ble_eq_true rfl, Nat.le_of_ble_eq_true rfl⟩ (hi.sh rfl rfl) ⟨_, _, by decide, rfl⟩ rfl (Nat.le_of_ble_eq_true rfl) (K)))
theorem bX11_cellGoing_5 {G : GX} {h : mH} {Q : mO → mH → Prop} {vs0 : Int32} (hi : Iv h) (K : WM G jX11_penGoing [.ref 83, .int 1] h (Aft G jX11_cellGoing 7 [none] [.int vs0] Q)) : Vw G jX11_cellGoing 5 [some (.ref 83)] [.int vs0] h Q :=
  s_aload_n dX11_cellGoing_5 rfl (s_iconst 1 dX11_cellGoing_6 (by decide) (Vw.mask [false] (s_callV (As := [.int 1]) dX11_cellGoing_7 rfl lvX11_359 ⟨Nat.le_of_ble_eq_true rfl, Nat.le_of_ble_eq_true rfl⟩ (hi.sh rfl rfl) ⟨_, _, by decide, rfl⟩ rfl (Nat.le_of_ble_eq_true rfl) (K))))
theorem bX11_cellGoing_10 {G : GX} {h : mH} {Q : mO → mH → Prop} {vs0 : Int32} {vs1 : Int32} (hi : Iv h) (K : Q (.inl (some (.int (fX11_cellOf vs1 vs0)))) h) : Vw G jX11_cellGoing 10 [none] [.int vs0, .int vs1] h Q :=
  s_callS (As := [.int vs1, .int vs0]) dX11_cellGoing_10 rfl lsX11_272 ⟨Nat.le_of_ble_eq_true rfl, Nat.le_of_ble_eq_true rfl⟩ rfl (Nat.le_of_ble_eq_true rfl) (mX11_cellOf   (s_ireturn dX11_cellGoing_13 rfl K))
theorem eX11_cellGoing {G : GX} {h : mH} {Q : mO → mH → Prop} (hi : Iv h) (K : WM G jX11_penGoing [.ref 83, .int 0] h (Aft G jX11_cellGoing 2 [some (.ref 83)] [] Q)) : WM G jX11_cellGoing [.ref 83] h Q :=
  WM.body (ls := [some (.ref 83)]) rfl (by decide +kernel) rfl (Nat.le_of_ble_eq_true rfl) rfl ((bX11_cellGoing_0 hi  K))
theorem dX11_holds_0 : decode cX11_holds 0 = .ok (.iload_n 1, 1) := by decide +kernel
theorem dX11_holds_1 : decode cX11_holds 1 = .ok (.tableswitch 73 15 17 #[27, 45, 59], 27) := by decide +kernel
theorem dX11_holds_28 : decode cX11_holds 28 = .ok (.aload_n 0, 1) := by decide +kernel
theorem dX11_holds_29 : decode cX11_holds 29 = .ok (.getfield 92, 3) := by decide +kernel
theorem dX11_holds_32 : decode cX11_holds 32 = .ok (.aload_n 0, 1) := by decide +kernel
theorem dX11_holds_33 : decode cX11_holds 33 = .ok (.invokevirtual 362, 3) := by decide +kernel
theorem dX11_holds_36 : decode cX11_holds 36 = .ok (.iaload, 1) := by decide +kernel
theorem dX11_holds_37 : decode cX11_holds 37 = .ok (.ifCond .le 7, 3) := by decide +kernel
theorem dX11_holds_40 : decode cX11_holds 40 = .ok (.iconst 1, 1) := by decide +kernel
theorem dX11_holds_41 : decode cX11_holds 41 = .ok (.goto 4, 3) := by decide +kernel
theorem dX11_holds_44 : decode cX11_holds 44 = .ok (.iconst 0, 1) := by decide +kernel
theorem dX11_holds_45 : decode cX11_holds 45 = .ok (.ireturn, 1) := by decide +kernel
theorem dX11_holds_46 : decode cX11_holds 46 = .ok (.aload_n 0, 1) := by decide +kernel
theorem dX11_holds_47 : decode cX11_holds 47 = .ok (.iconst 0, 1) := by decide +kernel
theorem dX11_holds_48 : decode cX11_holds 48 = .ok (.invokevirtual 359, 3) := by decide +kernel
theorem dX11_holds_51 : decode cX11_holds 51 = .ok (.ifCond .le 7, 3) := by decide +kernel
theorem dX11_holds_54 : decode cX11_holds 54 = .ok (.iconst 1, 1) := by decide +kernel
theorem dX11_holds_55 : decode cX11_holds 55 = .ok (.goto 4, 3) := by decide +kernel
theorem dX11_holds_58 : decode cX11_holds 58 = .ok (.iconst 0, 1) := by decide +kernel
theorem dX11_holds_59 : decode cX11_holds 59 = .ok (.ireturn, 1) := by decide +kernel
theorem dX11_holds_60 : decode cX11_holds 60 = .ok (.aload_n 0, 1) := by decide +kernel
theorem dX11_holds_61 : decode cX11_holds 61 = .ok (.iconst 1, 1) := by decide +kernel
theorem dX11_holds_62 : decode cX11_holds 62 = .ok (.invokevirtual 359, 3) := by decide +kernel
theorem dX11_holds_65 : decode cX11_holds 65 = .ok (.ifCond .le 7, 3) := by decide +kernel
theorem dX11_holds_68 : decode cX11_holds 68 = .ok (.iconst 1, 1) := by decide +kernel
theorem dX11_holds_69 : decode cX11_holds 69 = .ok (.goto 4, 3) := by decide +kernel
theorem dX11_holds_72 : decode cX11_holds 72 = .ok (.iconst 0, 1) := by decide +kernel
theorem dX11_holds_73 : decode cX11_holds 73 = .ok (.ireturn, 1) := by decide +kernel
theorem dX11_holds_74 : decode cX11_holds 74 = .ok (.aload_n 0, 1) := by decide +kernel
theorem dX11_holds_75 : decode cX11_holds 75 = .ok (.aload_n 0, 1) := by decide +kernel
theorem dX11_holds_76 : decode cX11_holds 76 = .ok (.getfield 95, 3) := by decide +kernel
theorem dX11_holds_79 : decode cX11_holds 79 = .ok (.iconst 0, 1) := by decide +kernel
theorem dX11_holds_80 : decode cX11_holds 80 = .ok (.iload_n 2, 1) := by decide +kernel
theorem dX11_holds_81 : decode cX11_holds 81 = .ok (.aload_n 0, 1) := by decide +kernel
theorem dX11_holds_82 : decode cX11_holds 82 = .ok (.getfield 356, 3) := by decide +kernel
theorem dX11_holds_85 : decode cX11_holds 85 = .ok (.invokevirtual 252, 3) := by decide +kernel
theorem dX11_holds_88 : decode cX11_holds 88 = .ok (.ifCond .eq 7, 3) := by decide +kernel
theorem dX11_holds_91 : decode cX11_holds 91 = .ok (.iconst 1, 1) := by decide +kernel
theorem dX11_holds_92 : decode cX11_holds 92 = .ok (.goto 4, 3) := by decide +kernel
theorem dX11_holds_95 : decode cX11_holds 95 = .ok (.iconst 0, 1) := by decide +kernel
theorem dX11_holds_96 : decode cX11_holds 96 = .ok (.ireturn, 1) := by decide +kernel
theorem bX11_holds_0 {G : GX} {h : mH} {Q : mO → mH → Prop} {v1 : Int32} {v2 : Int32} (hi : Iv h) (K : (v1 = 15 → WM G jX11_cellGoing [.ref 83] h (Aft G jX11_holds 33 [none, none, none] [.ref 109] Q)) ∧ (v1 = 16 → WM G jX11_penGoing [.ref 83, .int 0] h (Aft G jX11_holds 48 [none, none, none] [] Q)) ∧ (v1 = 17 → WM G jX11_penGoing [.ref 83, .int 1] h (Aft G jX11_holds 62 [none, none, none] [] Q)) ∧ (¬ v1 = 15 → ¬ v1 = 16 → ¬ v1 = 17 → WM G jX11_at [.ref 83, .ref 110, .int 0, .int v2, .int (gI h 83 52)] h (Aft G jX11_holds 85 [none, none, none] [] Q))) : Vw G jX11_holds 0 [some (.ref 83), some (.int v1), some (.int v2)] [] h Q :=
  s_iload_n dX11_holds_0 rfl (Decidable.byCases (fun e1_0 => s_tableIn 28 dX11_holds_1 (by rw [e1_0] <;> decide) (by rw [e1_0] <;> decide) (by rw [e1_0] <;> rfl) rfl (s_aload_n dX11_holds_28 rfl (s_getR (v := .ref 109) dX11_holds_29 flX11_92 rfl (hi.sh rfl rfl) (hi.rf (o := 83) (k := 49) (d := 26) rfl rfl) (s_aload_n dX11_holds_32 rfl (Vw.mask [false, false, false] (s_callV (As := []) dX11_holds_33 rfl lvX11_362 ⟨Nat.le_of_ble_eq_true rfl, Nat.le_of_ble_eq_true rfl⟩ (hi.sh rfl rfl) ⟨_, _, by decide, rfl⟩ rfl (Nat.le_of_ble_eq_true rfl) ((K.1 e1_0)))))))) (fun e1_0 => Decidable.byCases (fun e1_1 => s_tableIn 46 dX11_holds_1 (by rw [e1_1] <;> decide) (by rw [e1_1] <;> decide) (by rw [e1_1] <;> rfl) rfl (s_aload_n dX11_holds_46 rfl (s_iconst 0 dX11_holds_47 (by decide) (Vw.mask [false, false, false] (s_callV (As := [.int 0]) dX11_holds_48 rfl lvX11_359 ⟨Nat.le_of_ble_eq_true rfl, Nat.le_of_ble_eq_true rfl⟩ (hi.sh rfl rfl) ⟨_, _, by decide, rfl⟩ rfl (Nat.le_of_ble_eq_true rfl) ((K.2.1 e1_1))))))) (fun e1_1 => Decidable.byCases (fun e1_2 => s_tableIn 60 dX11_holds_1 (by rw [e1_2] <;> decide) (by rw [e1_2] <;> decide) (by rw [e1_2] <;> rfl) rfl (s_aload_n dX11_holds_60 rfl (s_iconst 1 dX11_holds_61 (by decide) (Vw.mask [false, false, false] (s_callV (As := [.int 1]) dX11_holds_62 rfl lvX11_359 ⟨Nat.le_of_ble_eq_true rfl, Nat.le_of_ble_eq_true rfl⟩ (hi.sh rfl rfl) ⟨_, _, by decide, rfl⟩ rfl (Nat.le_of_ble_eq_true rfl) ((K.2.2.1 e1_2))))))) (fun e1_2 => s_tableOut 74 dX11_holds_1 (sw_out [15, 16, 17] (by simp only [List.forall_mem_cons]; exact ⟨e1_0, e1_1, e1_2, fun _ hh => nomatch hh⟩) (fun k z1 z2 => by rcases (show k = 15 ∨ k = 16 ∨ k = 17 by omega) with rfl | rfl | rfl <;> decide)) rfl (s_aload_n dX11_holds_74 rfl (s_aload_n dX11_holds_75 rfl (s_getR (v := .ref 110) dX11_holds_76 flX11_95 rfl (hi.sh rfl rfl) (hi.rf (o := 83) (k := 50) (d := 27) rfl rfl) (s_iconst 0 dX11_holds_79 (by decide) (s_iload_n dX11_holds_80 rfl (s_aload_n dX11_holds_81 rfl (s_getI dX11_holds_82 flX11_356 (Or.inl rfl) (hi.sh rfl rfl) (Vw.mask [false, false, false] (s_callV (As := [.ref 110, .int 0, .int v2, .int (gI h 83 52)]) dX11_holds_85 rfl lvX11_252 ⟨Nat.le_of_ble_eq_true rfl, Nat.le_of_ble_eq_true rfl⟩ (hi.sh rfl rfl) ⟨_, _, by decide, rfl⟩ rfl (Nat.le_of_ble_eq_true rfl) ((K.2.2.2 e1_0 e1_1 e1_2)))))))))))))))
theorem bX11_holds_36 {G : GX} {h : mH} {Q : mO → mH → Prop} {vs0 : Int32} (hi : Iv h) (K : vp_in vs0 729 ∧ (((gI h 109 (Int32.toNatClampNeg vs0)) ≤ 0 → Q (.inl (some (.int 0))) h) ∧ (¬ (gI h 109 (Int32.toNatClampNeg vs0)) ≤ 0 → Q (.inl (some (.int 1))) h))) : Vw G jX11_holds 36 [none, none, none] [.int vs0, .ref 109] h Q :=
  s_iaload dX11_holds_36 (hi.sh rfl rfl) K.1 (s_if_le 44 dX11_holds_37 rfl (fun q1 => s_iconst 0 dX11_holds_44 (by decide) (s_zreturn dX11_holds_45 rfl (by decide) (K.2.1 q1))) (fun q1 => s_iconst 1 dX11_holds_40 (by decide) (s_goto 45 dX11_holds_41 rfl (s_zreturn dX11_holds_45 rfl (by decide) (K.2.2 q1)))))
theorem bX11_holds_51 {G : GX} {h : mH} {Q : mO → mH → Prop} {vs0 : Int32} (hi : Iv h) (K : (vs0 ≤ 0 → Q (.inl (some (.int 0))) h) ∧ (¬ vs0 ≤ 0 → Q (.inl (some (.int 1))) h)) : Vw G jX11_holds 51 [none, none, none] [.int vs0] h Q :=
  s_if_le 58 dX11_holds_51 rfl (fun q0 => s_iconst 0 dX11_holds_58 (by decide) (s_zreturn dX11_holds_59 rfl (by decide) (K.1 q0))) (fun q0 => s_iconst 1 dX11_holds_54 (by decide) (s_goto 59 dX11_holds_55 rfl (s_zreturn dX11_holds_59 rfl (by decide) (K.2 q0))))
theorem bX11_holds_65 {G : GX} {h : mH} {Q : mO → mH → Prop} {vs0 : Int32} (hi : Iv h) (K : (vs0 ≤ 0 → Q (.inl (some (.int 0))) h) ∧ (¬ vs0 ≤ 0 → Q (.inl (some (.int 1))) h)) : Vw G jX11_holds 65 [none, none, none] [.int vs0] h Q :=
  s_if_le 72 dX11_holds_65 rfl (fun q0 => s_iconst 0 dX11_holds_72 (by decide) (s_zreturn dX11_holds_73 rfl (by decide) (K.1 q0))) (fun q0 => s_iconst 1 dX11_holds_68 (by decide) (s_goto 73 dX11_holds_69 rfl (s_zreturn dX11_holds_73 rfl (by decide) (K.2 q0))))
theorem bX11_holds_88 {G : GX} {h : mH} {Q : mO → mH → Prop} {vs0 : Int32} (hi : Iv h) (K : (vs0 = 0 → Q (.inl (some (.int 0))) h) ∧ (¬ vs0 = 0 → Q (.inl (some (.int 1))) h)) : Vw G jX11_holds 88 [none, none, none] [.int vs0] h Q :=
  s_if_eq 95 dX11_holds_88 rfl (fun q0 => s_iconst 0 dX11_holds_95 (by decide) (s_zreturn dX11_holds_96 rfl (by decide) (K.1 q0))) (fun q0 => s_iconst 1 dX11_holds_91 (by decide) (s_goto 96 dX11_holds_92 rfl (s_zreturn dX11_holds_96 rfl (by decide) (K.2 q0))))
theorem eX11_holds {G : GX} {h : mH} {Q : mO → mH → Prop} {v1 : Int32} {v2 : Int32} (hi : Iv h) (K : (v1 = 15 → WM G jX11_cellGoing [.ref 83] h (Aft G jX11_holds 33 [none, none, none] [.ref 109] Q)) ∧ (v1 = 16 → WM G jX11_penGoing [.ref 83, .int 0] h (Aft G jX11_holds 48 [none, none, none] [] Q)) ∧ (v1 = 17 → WM G jX11_penGoing [.ref 83, .int 1] h (Aft G jX11_holds 62 [none, none, none] [] Q)) ∧ (¬ v1 = 15 → ¬ v1 = 16 → ¬ v1 = 17 → WM G jX11_at [.ref 83, .ref 110, .int 0, .int v2, .int (gI h 83 52)] h (Aft G jX11_holds 85 [none, none, none] [] Q))) : WM G jX11_holds [.ref 83, .int v1, .int v2] h Q :=
  WM.body (ls := [some (.ref 83), some (.int v1), some (.int v2)]) rfl (by decide +kernel) rfl (Nat.le_of_ble_eq_true rfl) rfl ((bX11_holds_0 hi  K))
theorem dX11_draws_0 : decode cX11_draws 0 = .ok (.iconst 0, 1) := by decide +kernel
theorem dX11_draws_1 : decode cX11_draws 1 = .ok (.istore_n 2, 1) := by decide +kernel
theorem dX11_draws_2 : decode cX11_draws 2 = .ok (.iload_n 2, 1) := by decide +kernel
theorem dX11_draws_3 : decode cX11_draws 3 = .ok (.iload_n 1, 1) := by decide +kernel
theorem dX11_draws_4 : decode cX11_draws 4 = .ok (.if_icmp .ge 58, 3) := by decide +kernel
theorem dX11_draws_7 : decode cX11_draws 7 = .ok (.aload_n 0, 1) := by decide +kernel
theorem dX11_draws_8 : decode cX11_draws 8 = .ok (.getfield 366, 3) := by decide +kernel
theorem dX11_draws_11 : decode cX11_draws 11 = .ok (.ifCond .ne 51, 3) := by decide +kernel
theorem dX11_draws_14 : decode cX11_draws 14 = .ok (.aload_n 0, 1) := by decide +kernel
theorem dX11_draws_15 : decode cX11_draws 15 = .ok (.getfield 92, 3) := by decide +kernel
theorem dX11_draws_18 : decode cX11_draws 18 = .ok (.aload_n 0, 1) := by decide +kernel
theorem dX11_draws_19 : decode cX11_draws 19 = .ok (.invokevirtual 362, 3) := by decide +kernel
theorem dX11_draws_22 : decode cX11_draws 22 = .ok (.dup2, 1) := by decide +kernel
theorem dX11_draws_23 : decode cX11_draws 23 = .ok (.iaload, 1) := by decide +kernel
theorem dX11_draws_24 : decode cX11_draws 24 = .ok (.iconst 1, 1) := by decide +kernel
theorem dX11_draws_25 : decode cX11_draws 25 = .ok (.iadd, 1) := by decide +kernel
theorem dX11_draws_26 : decode cX11_draws 26 = .ok (.iastore, 1) := by decide +kernel
theorem dX11_draws_27 : decode cX11_draws 27 = .ok (.aload_n 0, 1) := by decide +kernel
theorem dX11_draws_28 : decode cX11_draws 28 = .ok (.dup, 1) := by decide +kernel
theorem dX11_draws_29 : decode cX11_draws 29 = .ok (.getfield 356, 3) := by decide +kernel
theorem dX11_draws_32 : decode cX11_draws 32 = .ok (.iconst 1, 1) := by decide +kernel
theorem dX11_draws_33 : decode cX11_draws 33 = .ok (.iadd, 1) := by decide +kernel
theorem dX11_draws_34 : decode cX11_draws 34 = .ok (.putfield 356, 3) := by decide +kernel
theorem dX11_draws_37 : decode cX11_draws 37 = .ok (.aload_n 0, 1) := by decide +kernel
theorem dX11_draws_38 : decode cX11_draws 38 = .ok (.aload_n 0, 1) := by decide +kernel
theorem dX11_draws_39 : decode cX11_draws 39 = .ok (.getfield 356, 3) := by decide +kernel
theorem dX11_draws_42 : decode cX11_draws 42 = .ok (.sipush 10000, 3) := by decide +kernel
theorem dX11_draws_45 : decode cX11_draws 45 = .ok (.if_icmp .lt 7, 3) := by decide +kernel
theorem dX11_draws_48 : decode cX11_draws 48 = .ok (.iconst 1, 1) := by decide +kernel
theorem dX11_draws_49 : decode cX11_draws 49 = .ok (.goto 4, 3) := by decide +kernel
theorem dX11_draws_52 : decode cX11_draws 52 = .ok (.iconst 0, 1) := by decide +kernel
theorem dX11_draws_53 : decode cX11_draws 53 = .ok (.putfield 366, 3) := by decide +kernel
theorem dX11_draws_56 : decode cX11_draws 56 = .ok (.iinc 2 1, 3) := by decide +kernel
theorem dX11_draws_59 : decode cX11_draws 59 = .ok (.goto (-57), 3) := by decide +kernel
theorem dX11_draws_62 : decode cX11_draws 62 = .ok (.return_, 1) := by decide +kernel
theorem bX11_draws_0 {G : GX} {h : mH} {Q : mO → mH → Prop} {v1 : Int32} (hi : Iv h) (K : Vw G jX11_draws 2 [some (.ref 83), some (.int v1), some (.int 0)] [] h Q) : Vw G jX11_draws 0 [some (.ref 83), some (.int v1), none] [] h Q :=
  s_iconst 0 dX11_draws_0 (by decide) (s_istore_n dX11_draws_1 (Nat.le_of_ble_eq_true rfl) rfl (K))
theorem bX11_draws_2 {G : GX} {h : mH} {Q : mO → mH → Prop} {v1 : Int32} {v2 : Int32} (hi : Iv h) (K : (v1 ≤ v2 → Q (.inl none) h) ∧ (¬ v1 ≤ v2 → ((¬ (gI h 83 54) = 0 → Q (.inl none) h) ∧ ((gI h 83 54) = 0 → WM G jX11_cellGoing [.ref 83] h (Aft G jX11_draws 19 [some (.ref 83), some (.int v1), some (.int v2)] [.ref 109] Q))))) : Vw G jX11_draws 2 [some (.ref 83), some (.int v1), some (.int v2)] [] h Q :=
  s_iload_n dX11_draws_2 rfl (s_iload_n dX11_draws_3 rfl (s_icmp_ge 62 dX11_draws_4 rfl (fun q2 => s_return dX11_draws_62 rfl (K.1 q2)) (fun q2 => s_aload_n dX11_draws_7 rfl (s_getI dX11_draws_8 flX11_366 (Or.inr rfl) (hi.sh rfl rfl) (s_if_ne 62 dX11_draws_11 rfl (fun q5 => s_return dX11_draws_62 rfl ((K.2 q2).1 q5)) (fun q5 => s_aload_n dX11_draws_14 rfl (s_getR (v := .ref 109) dX11_draws_15 flX11_92 rfl (hi.sh rfl rfl) (hi.rf (o := 83) (k := 49) (d := 26) rfl rfl) (s_aload_n dX11_draws_18 rfl (s_callV (As := []) dX11_draws_19 rfl lvX11_362 ⟨Nat.le_of_ble_eq_true rfl, Nat.le_of_ble_eq_true rfl⟩ (hi.sh rfl rfl) ⟨_, _, by decide, rfl⟩ rfl (Nat.le_of_ble_eq_true rfl) (((K.2 q2).2 q5)))))))))))
theorem bX11_draws_22 {G : GX} {h : mH} {Q : mO → mH → Prop} {v1 : Int32} {v2 : Int32} {vs0 : Int32} (hi : Iv h) (K : vp_in vs0 729 ∧ (vp_in vs0 729 ∧ (((gI (pI (pI h 109 (Int32.toNatClampNeg vs0) ((gI h 109 (Int32.toNatClampNeg vs0)) + 1)) 83 52 ((gI (pI h 109 (Int32.toNatClampNeg vs0) ((gI h 109 (Int32.toNatClampNeg vs0)) + 1)) 83 52) + 1)) 83 52) < 10000 → Vw G jX11_draws 2 [some (.ref 83), some (.int v1), some (.int (v2 + 1))] [] (pI (pI (pI h 109 (Int32.toNatClampNeg vs0) ((gI h 109 (Int32.toNatClampNeg vs0)) + 1)) 83 52 ((gI (pI h 109 (Int32.toNatClampNeg vs0) ((gI h 109 (Int32.toNatClampNeg vs0)) + 1)) 83 52) + 1)) 83 54 0) Q) ∧ (¬ (gI (pI (pI h 109 (Int32.toNatClampNeg vs0) ((gI h 109 (Int32.toNatClampNeg vs0)) + 1)) 83 52 ((gI (pI h 109 (Int32.toNatClampNeg vs0) ((gI h 109 (Int32.toNatClampNeg vs0)) + 1)) 83 52) + 1)) 83 52) < 10000 → Vw G jX11_draws 2 [some (.ref 83), some (.int v1), some (.int (v2 + 1))] [] (pI (pI (pI h 109 (Int32.toNatClampNeg vs0) ((gI h 109 (Int32.toNatClampNeg vs0)) + 1)) 83 52 ((gI (pI h 109 (Int32.toNatClampNeg vs0) ((gI h 109 (Int32.toNatClampNeg vs0)) + 1)) 83 52) + 1)) 83 54 1) Q)))) : Vw G jX11_draws 22 [some (.ref 83), some (.int v1), some (.int v2)] [.int vs0, .ref 109] h Q :=
  s_dup2ir dX11_draws_22 (s_iaload dX11_draws_23 (hi.sh rfl rfl) K.1 (s_iconst 1 dX11_draws_24 (by decide) (s_iadd dX11_draws_25 (s_iastore dX11_draws_26 (hi.sh rfl rfl) K.2.1 (s_aload_n dX11_draws_27 rfl (s_dupr dX11_draws_28 (s_getI dX11_draws_29 flX11_356 (Or.inl rfl) (hi.sh rfl rfl) (s_iconst 1 dX11_draws_32 (by decide) (s_iadd dX11_draws_33 (s_putI dX11_draws_34 flX11_356 ff10_52 rfl (hi.sh rfl rfl) (s_aload_n dX11_draws_37 rfl (s_aload_n dX11_draws_38 rfl (s_getI dX11_draws_39 flX11_356 (Or.inl rfl) (hi.sh rfl rfl) (s_sipush 10000 dX11_draws_42 (by decide) (s_icmp_lt 52 dX11_draws_45 rfl (fun q15 => s_iconst 0 dX11_draws_52 (by decide) (s_putZ dX11_draws_53 flX11_366 ff10_54 rfl (hi.sh rfl rfl) (by decide) (s_iinc 1 dX11_draws_56 rfl (by decide) (Nat.le_of_ble_eq_true rfl) rfl (s_goto 2 dX11_draws_59 rfl ((K.2.2.1 q15)))))) (fun q15 => s_iconst 1 dX11_draws_48 (by decide) (s_goto 53 dX11_draws_49 rfl (s_putZ dX11_draws_53 flX11_366 ff10_54 rfl (hi.sh rfl rfl) (by decide) (s_iinc 1 dX11_draws_56 rfl (by decide) (Nat.le_of_ble_eq_true rfl) rfl (s_goto 2 dX11_draws_59 rfl ((K.2.2.2 q15))))))))))))))))))))))
theorem eX11_draws {G : GX} {h : mH} {Q : mO → mH → Prop} {v1 : Int32} (hi : Iv h) (K : Vw G jX11_draws 2 [some (.ref 83), some (.int v1), some (.int 0)] [] h Q) : WM G jX11_draws [.ref 83, .int v1] h Q :=
  WM.body (ls := [some (.ref 83), some (.int v1), none]) rfl (by decide +kernel) rfl (Nat.le_of_ble_eq_true rfl) rfl ((bX11_draws_0 hi  K))
theorem dX11_performs_0 : decode cX11_performs 0 = .ok (.iconst 0, 1) := by decide +kernel
theorem dX11_performs_1 : decode cX11_performs 1 = .ok (.istore_n 1, 1) := by decide +kernel
theorem dX11_performs_2 : decode cX11_performs 2 = .ok (.iload_n 1, 1) := by decide +kernel
theorem dX11_performs_3 : decode cX11_performs 3 = .ok (.sipush 729, 3) := by decide +kernel
theorem dX11_performs_6 : decode cX11_performs 6 = .ok (.if_icmp .ge 16, 3) := by decide +kernel
theorem dX11_performs_9 : decode cX11_performs 9 = .ok (.aload_n 0, 1) := by decide +kernel
theorem dX11_performs_10 : decode cX11_performs 10 = .ok (.getfield 92, 3) := by decide +kernel
theorem dX11_performs_13 : decode cX11_performs 13 = .ok (.iload_n 1, 1) := by decide +kernel
theorem dX11_performs_14 : decode cX11_performs 14 = .ok (.iconst 0, 1) := by decide +kernel
theorem dX11_performs_15 : decode cX11_performs 15 = .ok (.iastore, 1) := by decide +kernel
theorem dX11_performs_16 : decode cX11_performs 16 = .ok (.iinc 1 1, 3) := by decide +kernel
theorem dX11_performs_19 : decode cX11_performs 19 = .ok (.goto (-17), 3) := by decide +kernel
theorem dX11_performs_22 : decode cX11_performs 22 = .ok (.aload_n 0, 1) := by decide +kernel
theorem dX11_performs_23 : decode cX11_performs 23 = .ok (.aload_n 0, 1) := by decide +kernel
theorem dX11_performs_24 : decode cX11_performs 24 = .ok (.getfield 19, 3) := by decide +kernel
theorem dX11_performs_27 : decode cX11_performs 27 = .ok (.aload_n 0, 1) := by decide +kernel
theorem dX11_performs_28 : decode cX11_performs 28 = .ok (.getfield 95, 3) := by decide +kernel
theorem dX11_performs_31 : decode cX11_performs 31 = .ok (.invokevirtual 222, 3) := by decide +kernel
theorem dX11_performs_34 : decode cX11_performs 34 = .ok (.aload_n 0, 1) := by decide +kernel
theorem dX11_performs_35 : decode cX11_performs 35 = .ok (.iconst 0, 1) := by decide +kernel
theorem dX11_performs_36 : decode cX11_performs 36 = .ok (.putfield 369, 3) := by decide +kernel
theorem dX11_performs_39 : decode cX11_performs 39 = .ok (.aload_n 0, 1) := by decide +kernel
theorem dX11_performs_40 : decode cX11_performs 40 = .ok (.iconst 0, 1) := by decide +kernel
theorem dX11_performs_41 : decode cX11_performs 41 = .ok (.putfield 356, 3) := by decide +kernel
theorem dX11_performs_44 : decode cX11_performs 44 = .ok (.aload_n 0, 1) := by decide +kernel
theorem dX11_performs_45 : decode cX11_performs 45 = .ok (.iconst 0, 1) := by decide +kernel
theorem dX11_performs_46 : decode cX11_performs 46 = .ok (.putfield 353, 3) := by decide +kernel
theorem dX11_performs_49 : decode cX11_performs 49 = .ok (.aload_n 0, 1) := by decide +kernel
theorem dX11_performs_50 : decode cX11_performs 50 = .ok (.iconst 0, 1) := by decide +kernel
theorem dX11_performs_51 : decode cX11_performs 51 = .ok (.putfield 366, 3) := by decide +kernel
theorem dX11_performs_54 : decode cX11_performs 54 = .ok (.iconst 0, 1) := by decide +kernel
theorem dX11_performs_55 : decode cX11_performs 55 = .ok (.istore_n 1, 1) := by decide +kernel
theorem dX11_performs_56 : decode cX11_performs 56 = .ok (.iconst 0, 1) := by decide +kernel
theorem dX11_performs_57 : decode cX11_performs 57 = .ok (.istore_n 2, 1) := by decide +kernel
theorem dX11_performs_58 : decode cX11_performs 58 = .ok (.aload_n 0, 1) := by decide +kernel
theorem dX11_performs_59 : decode cX11_performs 59 = .ok (.getfield 77, 3) := by decide +kernel
theorem dX11_performs_62 : decode cX11_performs 62 = .ok (.iload_n 2, 1) := by decide +kernel
theorem dX11_performs_63 : decode cX11_performs 63 = .ok (.iaload, 1) := by decide +kernel
theorem dX11_performs_64 : decode cX11_performs 64 = .ok (.ifCond .eq 454, 3) := by decide +kernel
theorem dX11_performs_67 : decode cX11_performs 67 = .ok (.aload_n 0, 1) := by decide +kernel
theorem dX11_performs_68 : decode cX11_performs 68 = .ok (.getfield 366, 3) := by decide +kernel
theorem dX11_performs_71 : decode cX11_performs 71 = .ok (.ifCond .ne 447, 3) := by decide +kernel
theorem dX11_performs_74 : decode cX11_performs 74 = .ok (.aload_n 0, 1) := by decide +kernel
theorem dX11_performs_75 : decode cX11_performs 75 = .ok (.getfield 77, 3) := by decide +kernel
theorem dX11_performs_78 : decode cX11_performs 78 = .ok (.iload_n 2, 1) := by decide +kernel
theorem dX11_performs_79 : decode cX11_performs 79 = .ok (.iaload, 1) := by decide +kernel
theorem dX11_performs_80 : decode cX11_performs 80 = .ok (.istore_n 3, 1) := by decide +kernel
theorem dX11_performs_81 : decode cX11_performs 81 = .ok (.iload_n 3, 1) := by decide +kernel
theorem dX11_performs_82 : decode cX11_performs 82 = .ok (.bipush 100, 2) := by decide +kernel
theorem dX11_performs_84 : decode cX11_performs 84 = .ok (.if_icmp .ne 63, 3) := by decide +kernel
theorem dX11_performs_87 : decode cX11_performs 87 = .ok (.aload_n 0, 1) := by decide +kernel
theorem dX11_performs_88 : decode cX11_performs 88 = .ok (.getfield 89, 3) := by decide +kernel
theorem dX11_performs_91 : decode cX11_performs 91 = .ok (.iload_n 1, 1) := by decide +kernel
theorem dX11_performs_92 : decode cX11_performs 92 = .ok (.iconst 1, 1) := by decide +kernel
theorem dX11_performs_93 : decode cX11_performs 93 = .ok (.isub, 1) := by decide +kernel
theorem dX11_performs_94 : decode cX11_performs 94 = .ok (.dup2, 1) := by decide +kernel
theorem dX11_performs_95 : decode cX11_performs 95 = .ok (.iaload, 1) := by decide +kernel
theorem dX11_performs_96 : decode cX11_performs 96 = .ok (.iconst 1, 1) := by decide +kernel
theorem dX11_performs_97 : decode cX11_performs 97 = .ok (.isub, 1) := by decide +kernel
theorem dX11_performs_98 : decode cX11_performs 98 = .ok (.iastore, 1) := by decide +kernel
theorem dX11_performs_99 : decode cX11_performs 99 = .ok (.aload_n 0, 1) := by decide +kernel
theorem dX11_performs_100 : decode cX11_performs 100 = .ok (.getfield 89, 3) := by decide +kernel
theorem dX11_performs_103 : decode cX11_performs 103 = .ok (.iload_n 1, 1) := by decide +kernel
theorem dX11_performs_104 : decode cX11_performs 104 = .ok (.iconst 1, 1) := by decide +kernel
theorem dX11_performs_105 : decode cX11_performs 105 = .ok (.isub, 1) := by decide +kernel
theorem dX11_performs_106 : decode cX11_performs 106 = .ok (.iaload, 1) := by decide +kernel
theorem dX11_performs_107 : decode cX11_performs 107 = .ok (.ifCond .le 14, 3) := by decide +kernel
theorem dX11_performs_110 : decode cX11_performs 110 = .ok (.aload_n 0, 1) := by decide +kernel
theorem dX11_performs_111 : decode cX11_performs 111 = .ok (.getfield 77, 3) := by decide +kernel
theorem dX11_performs_114 : decode cX11_performs 114 = .ok (.iload_n 2, 1) := by decide +kernel
theorem dX11_performs_115 : decode cX11_performs 115 = .ok (.iconst 1, 1) := by decide +kernel
theorem dX11_performs_116 : decode cX11_performs 116 = .ok (.iadd, 1) := by decide +kernel
theorem dX11_performs_117 : decode cX11_performs 117 = .ok (.iaload, 1) := by decide +kernel
theorem dX11_performs_118 : decode cX11_performs 118 = .ok (.goto 6, 3) := by decide +kernel
theorem dX11_performs_121 : decode cX11_performs 121 = .ok (.iload_n 2, 1) := by decide +kernel
theorem dX11_performs_122 : decode cX11_performs 122 = .ok (.iconst 2, 1) := by decide +kernel
theorem dX11_performs_123 : decode cX11_performs 123 = .ok (.iadd, 1) := by decide +kernel
theorem dX11_performs_124 : decode cX11_performs 124 = .ok (.istore_n 2, 1) := by decide +kernel
theorem dX11_performs_125 : decode cX11_performs 125 = .ok (.iload_n 1, 1) := by decide +kernel
theorem dX11_performs_126 : decode cX11_performs 126 = .ok (.aload_n 0, 1) := by decide +kernel
theorem dX11_performs_127 : decode cX11_performs 127 = .ok (.getfield 89, 3) := by decide +kernel
theorem dX11_performs_130 : decode cX11_performs 130 = .ok (.iload_n 1, 1) := by decide +kernel
theorem dX11_performs_131 : decode cX11_performs 131 = .ok (.iconst 1, 1) := by decide +kernel
theorem dX11_performs_132 : decode cX11_performs 132 = .ok (.isub, 1) := by decide +kernel
theorem dX11_performs_133 : decode cX11_performs 133 = .ok (.iaload, 1) := by decide +kernel
theorem dX11_performs_134 : decode cX11_performs 134 = .ok (.ifCond .le 7, 3) := by decide +kernel
theorem dX11_performs_137 : decode cX11_performs 137 = .ok (.iconst 0, 1) := by decide +kernel
theorem dX11_performs_138 : decode cX11_performs 138 = .ok (.goto 4, 3) := by decide +kernel
theorem dX11_performs_141 : decode cX11_performs 141 = .ok (.iconst 1, 1) := by decide +kernel
theorem dX11_performs_142 : decode cX11_performs 142 = .ok (.isub, 1) := by decide +kernel
theorem dX11_performs_143 : decode cX11_performs 143 = .ok (.istore_n 1, 1) := by decide +kernel
theorem dX11_performs_144 : decode cX11_performs 144 = .ok (.goto (-86), 3) := by decide +kernel
theorem dX11_performs_147 : decode cX11_performs 147 = .ok (.iload_n 3, 1) := by decide +kernel
theorem dX11_performs_148 : decode cX11_performs 148 = .ok (.bipush 101, 2) := by decide +kernel
theorem dX11_performs_150 : decode cX11_performs 150 = .ok (.if_icmp .ne 15, 3) := by decide +kernel
theorem dX11_performs_153 : decode cX11_performs 153 = .ok (.aload_n 0, 1) := by decide +kernel
theorem dX11_performs_154 : decode cX11_performs 154 = .ok (.getfield 77, 3) := by decide +kernel
theorem dX11_performs_157 : decode cX11_performs 157 = .ok (.iload_n 2, 1) := by decide +kernel
theorem dX11_performs_158 : decode cX11_performs 158 = .ok (.iconst 1, 1) := by decide +kernel
theorem dX11_performs_159 : decode cX11_performs 159 = .ok (.iadd, 1) := by decide +kernel
theorem dX11_performs_160 : decode cX11_performs 160 = .ok (.iaload, 1) := by decide +kernel
theorem dX11_performs_161 : decode cX11_performs 161 = .ok (.istore_n 2, 1) := by decide +kernel
theorem dX11_performs_162 : decode cX11_performs 162 = .ok (.goto (-104), 3) := by decide +kernel
theorem dX11_performs_165 : decode cX11_performs 165 = .ok (.aload_n 0, 1) := by decide +kernel
theorem dX11_performs_166 : decode cX11_performs 166 = .ok (.aload_n 0, 1) := by decide +kernel
theorem dX11_performs_167 : decode cX11_performs 167 = .ok (.getfield 369, 3) := by decide +kernel
theorem dX11_performs_170 : decode cX11_performs 170 = .ok (.sipush 1000, 3) := by decide +kernel
theorem dX11_performs_173 : decode cX11_performs 173 = .ok (.if_icmp .ne 7, 3) := by decide +kernel
theorem dX11_performs_176 : decode cX11_performs 176 = .ok (.iconst 1, 1) := by decide +kernel
theorem dX11_performs_177 : decode cX11_performs 177 = .ok (.goto 4, 3) := by decide +kernel
theorem dX11_performs_180 : decode cX11_performs 180 = .ok (.iconst 0, 1) := by decide +kernel
theorem dX11_performs_181 : decode cX11_performs 181 = .ok (.putfield 366, 3) := by decide +kernel
theorem dX11_performs_184 : decode cX11_performs 184 = .ok (.aload_n 0, 1) := by decide +kernel
theorem dX11_performs_185 : decode cX11_performs 185 = .ok (.getfield 366, 3) := by decide +kernel
theorem dX11_performs_188 : decode cX11_performs 188 = .ok (.ifCond .eq 6, 3) := by decide +kernel
theorem dX11_performs_191 : decode cX11_performs 191 = .ok (.goto (-133), 3) := by decide +kernel
theorem dX11_performs_194 : decode cX11_performs 194 = .ok (.aload_n 0, 1) := by decide +kernel
theorem dX11_performs_195 : decode cX11_performs 195 = .ok (.dup, 1) := by decide +kernel
theorem dX11_performs_196 : decode cX11_performs 196 = .ok (.getfield 369, 3) := by decide +kernel
theorem dX11_performs_199 : decode cX11_performs 199 = .ok (.iconst 1, 1) := by decide +kernel
theorem dX11_performs_200 : decode cX11_performs 200 = .ok (.iadd, 1) := by decide +kernel
theorem dX11_performs_201 : decode cX11_performs 201 = .ok (.putfield 369, 3) := by decide +kernel
theorem dX11_performs_204 : decode cX11_performs 204 = .ok (.iload_n 3, 1) := by decide +kernel
theorem dX11_performs_205 : decode cX11_performs 205 = .ok (.bipush 6, 2) := by decide +kernel
theorem dX11_performs_207 : decode cX11_performs 207 = .ok (.if_icmp .ne 21, 3) := by decide +kernel
theorem dX11_performs_210 : decode cX11_performs 210 = .ok (.aload_n 0, 1) := by decide +kernel
theorem dX11_performs_211 : decode cX11_performs 211 = .ok (.aload_n 0, 1) := by decide +kernel
theorem dX11_performs_212 : decode cX11_performs 212 = .ok (.getfield 77, 3) := by decide +kernel
theorem dX11_performs_215 : decode cX11_performs 215 = .ok (.iload_n 2, 1) := by decide +kernel
theorem dX11_performs_216 : decode cX11_performs 216 = .ok (.iconst 1, 1) := by decide +kernel
theorem dX11_performs_217 : decode cX11_performs 217 = .ok (.iadd, 1) := by decide +kernel
theorem dX11_performs_218 : decode cX11_performs 218 = .ok (.iaload, 1) := by decide +kernel
theorem dX11_performs_219 : decode cX11_performs 219 = .ok (.invokevirtual 372, 3) := by decide +kernel
theorem dX11_performs_222 : decode cX11_performs 222 = .ok (.iinc 2 2, 3) := by decide +kernel
theorem dX11_performs_225 : decode cX11_performs 225 = .ok (.goto 290, 3) := by decide +kernel
theorem dX11_performs_228 : decode cX11_performs 228 = .ok (.iload_n 3, 1) := by decide +kernel
theorem dX11_performs_229 : decode cX11_performs 229 = .ok (.bipush 7, 2) := by decide +kernel
theorem dX11_performs_231 : decode cX11_performs 231 = .ok (.if_icmp .ne 45, 3) := by decide +kernel
theorem dX11_performs_234 : decode cX11_performs 234 = .ok (.aload_n 0, 1) := by decide +kernel
theorem dX11_performs_235 : decode cX11_performs 235 = .ok (.dup, 1) := by decide +kernel
theorem dX11_performs_236 : decode cX11_performs 236 = .ok (.getfield 356, 3) := by decide +kernel
theorem dX11_performs_239 : decode cX11_performs 239 = .ok (.aload_n 0, 1) := by decide +kernel
theorem dX11_performs_240 : decode cX11_performs 240 = .ok (.getfield 77, 3) := by decide +kernel
theorem dX11_performs_243 : decode cX11_performs 243 = .ok (.iload_n 2, 1) := by decide +kernel
theorem dX11_performs_244 : decode cX11_performs 244 = .ok (.iconst 1, 1) := by decide +kernel
theorem dX11_performs_245 : decode cX11_performs 245 = .ok (.iadd, 1) := by decide +kernel
theorem dX11_performs_246 : decode cX11_performs 246 = .ok (.iaload, 1) := by decide +kernel
theorem dX11_performs_247 : decode cX11_performs 247 = .ok (.iadd, 1) := by decide +kernel
theorem dX11_performs_248 : decode cX11_performs 248 = .ok (.putfield 356, 3) := by decide +kernel
theorem dX11_performs_251 : decode cX11_performs 251 = .ok (.aload_n 0, 1) := by decide +kernel
theorem dX11_performs_252 : decode cX11_performs 252 = .ok (.aload_n 0, 1) := by decide +kernel
theorem dX11_performs_253 : decode cX11_performs 253 = .ok (.getfield 356, 3) := by decide +kernel
theorem dX11_performs_256 : decode cX11_performs 256 = .ok (.sipush 10000, 3) := by decide +kernel
theorem dX11_performs_259 : decode cX11_performs 259 = .ok (.if_icmp .lt 7, 3) := by decide +kernel
theorem dX11_performs_262 : decode cX11_performs 262 = .ok (.iconst 1, 1) := by decide +kernel
theorem dX11_performs_263 : decode cX11_performs 263 = .ok (.goto 4, 3) := by decide +kernel
theorem dX11_performs_266 : decode cX11_performs 266 = .ok (.iconst 0, 1) := by decide +kernel
theorem dX11_performs_267 : decode cX11_performs 267 = .ok (.putfield 366, 3) := by decide +kernel
theorem dX11_performs_270 : decode cX11_performs 270 = .ok (.iinc 2 2, 3) := by decide +kernel
theorem dX11_performs_273 : decode cX11_performs 273 = .ok (.goto 242, 3) := by decide +kernel
theorem dX11_performs_276 : decode cX11_performs 276 = .ok (.iload_n 3, 1) := by decide +kernel
theorem dX11_performs_277 : decode cX11_performs 277 = .ok (.bipush 8, 2) := by decide +kernel
theorem dX11_performs_279 : decode cX11_performs 279 = .ok (.if_icmp .eq 9, 3) := by decide +kernel
theorem dX11_performs_282 : decode cX11_performs 282 = .ok (.iload_n 3, 1) := by decide +kernel
theorem dX11_performs_283 : decode cX11_performs 283 = .ok (.bipush 9, 2) := by decide +kernel
theorem dX11_performs_285 : decode cX11_performs 285 = .ok (.if_icmp .ne 78, 3) := by decide +kernel
theorem dX11_performs_288 : decode cX11_performs 288 = .ok (.iload_n 3, 1) := by decide +kernel
theorem dX11_performs_289 : decode cX11_performs 289 = .ok (.bipush 8, 2) := by decide +kernel
theorem dX11_performs_291 : decode cX11_performs 291 = .ok (.if_icmp .ne 14, 3) := by decide +kernel
theorem dX11_performs_294 : decode cX11_performs 294 = .ok (.aload_n 0, 1) := by decide +kernel
theorem dX11_performs_295 : decode cX11_performs 295 = .ok (.getfield 77, 3) := by decide +kernel
theorem dX11_performs_298 : decode cX11_performs 298 = .ok (.iload_n 2, 1) := by decide +kernel
theorem dX11_performs_299 : decode cX11_performs 299 = .ok (.iconst 1, 1) := by decide +kernel
theorem dX11_performs_300 : decode cX11_performs 300 = .ok (.iadd, 1) := by decide +kernel
theorem dX11_performs_301 : decode cX11_performs 301 = .ok (.iaload, 1) := by decide +kernel
theorem dX11_performs_302 : decode cX11_performs 302 = .ok (.goto 14, 3) := by decide +kernel
theorem dX11_performs_305 : decode cX11_performs 305 = .ok (.bipush 8, 2) := by decide +kernel
theorem dX11_performs_307 : decode cX11_performs 307 = .ok (.aload_n 0, 1) := by decide +kernel
theorem dX11_performs_308 : decode cX11_performs 308 = .ok (.getfield 77, 3) := by decide +kernel
theorem dX11_performs_311 : decode cX11_performs 311 = .ok (.iload_n 2, 1) := by decide +kernel
theorem dX11_performs_312 : decode cX11_performs 312 = .ok (.iconst 1, 1) := by decide +kernel
theorem dX11_performs_313 : decode cX11_performs 313 = .ok (.iadd, 1) := by decide +kernel
theorem dX11_performs_314 : decode cX11_performs 314 = .ok (.iaload, 1) := by decide +kernel
theorem dX11_performs_315 : decode cX11_performs 315 = .ok (.iadd, 1) := by decide +kernel
theorem dX11_performs_316 : decode cX11_performs 316 = .ok (.istore 4, 2) := by decide +kernel
theorem dX11_performs_318 : decode cX11_performs 318 = .ok (.aload_n 0, 1) := by decide +kernel
theorem dX11_performs_319 : decode cX11_performs 319 = .ok (.getfield 95, 3) := by decide +kernel
theorem dX11_performs_322 : decode cX11_performs 322 = .ok (.iload 4, 2) := by decide +kernel
theorem dX11_performs_324 : decode cX11_performs 324 = .ok (.aload_n 0, 1) := by decide +kernel
theorem dX11_performs_325 : decode cX11_performs 325 = .ok (.getfield 95, 3) := by decide +kernel
theorem dX11_performs_328 : decode cX11_performs 328 = .ok (.iload 4, 2) := by decide +kernel
theorem dX11_performs_330 : decode cX11_performs 330 = .ok (.iaload, 1) := by decide +kernel
theorem dX11_performs_331 : decode cX11_performs 331 = .ok (.aload_n 0, 1) := by decide +kernel
theorem dX11_performs_332 : decode cX11_performs 332 = .ok (.getfield 77, 3) := by decide +kernel
theorem dX11_performs_335 : decode cX11_performs 335 = .ok (.iload_n 2, 1) := by decide +kernel
theorem dX11_performs_336 : decode cX11_performs 336 = .ok (.iconst 2, 1) := by decide +kernel
theorem dX11_performs_337 : decode cX11_performs 337 = .ok (.iadd, 1) := by decide +kernel
theorem dX11_performs_338 : decode cX11_performs 338 = .ok (.iaload, 1) := by decide +kernel
theorem dX11_performs_339 : decode cX11_performs 339 = .ok (.iadd, 1) := by decide +kernel
theorem dX11_performs_340 : decode cX11_performs 340 = .ok (.iload_n 3, 1) := by decide +kernel
theorem dX11_performs_341 : decode cX11_performs 341 = .ok (.bipush 8, 2) := by decide +kernel
theorem dX11_performs_343 : decode cX11_performs 343 = .ok (.if_icmp .ne 8, 3) := by decide +kernel
theorem dX11_performs_346 : decode cX11_performs 346 = .ok (.bipush 9, 2) := by decide +kernel
theorem dX11_performs_348 : decode cX11_performs 348 = .ok (.goto 5, 3) := by decide +kernel
theorem dX11_performs_351 : decode cX11_performs 351 = .ok (.bipush 90, 2) := by decide +kernel
theorem dX11_performs_353 : decode cX11_performs 353 = .ok (.invokestatic 375, 3) := by decide +kernel
theorem dX11_performs_356 : decode cX11_performs 356 = .ok (.iastore, 1) := by decide +kernel
theorem dX11_performs_357 : decode cX11_performs 357 = .ok (.iinc 2 3, 3) := by decide +kernel
theorem dX11_performs_360 : decode cX11_performs 360 = .ok (.goto 155, 3) := by decide +kernel
theorem dX11_performs_363 : decode cX11_performs 363 = .ok (.iload_n 3, 1) := by decide +kernel
theorem dX11_performs_364 : decode cX11_performs 364 = .ok (.bipush 10, 2) := by decide +kernel
theorem dX11_performs_366 : decode cX11_performs 366 = .ok (.if_icmp .ne 25, 3) := by decide +kernel
theorem dX11_performs_369 : decode cX11_performs 369 = .ok (.aload_n 0, 1) := by decide +kernel
theorem dX11_performs_370 : decode cX11_performs 370 = .ok (.aload_n 0, 1) := by decide +kernel
theorem dX11_performs_371 : decode cX11_performs 371 = .ok (.getfield 353, 3) := by decide +kernel
theorem dX11_performs_374 : decode cX11_performs 374 = .ok (.ifCond .ne 7, 3) := by decide +kernel
theorem dX11_performs_377 : decode cX11_performs 377 = .ok (.iconst 1, 1) := by decide +kernel
theorem dX11_performs_378 : decode cX11_performs 378 = .ok (.goto 4, 3) := by decide +kernel
theorem dX11_performs_381 : decode cX11_performs 381 = .ok (.iconst 0, 1) := by decide +kernel
theorem dX11_performs_382 : decode cX11_performs 382 = .ok (.putfield 353, 3) := by decide +kernel
theorem dX11_performs_385 : decode cX11_performs 385 = .ok (.iinc 2 1, 3) := by decide +kernel
theorem dX11_performs_388 : decode cX11_performs 388 = .ok (.goto 127, 3) := by decide +kernel
theorem dX11_performs_391 : decode cX11_performs 391 = .ok (.iload_n 3, 1) := by decide +kernel
theorem dX11_performs_392 : decode cX11_performs 392 = .ok (.bipush 11, 2) := by decide +kernel
theorem dX11_performs_394 : decode cX11_performs 394 = .ok (.if_icmp .ne 66, 3) := by decide +kernel
theorem dX11_performs_397 : decode cX11_performs 397 = .ok (.aload_n 0, 1) := by decide +kernel
theorem dX11_performs_398 : decode cX11_performs 398 = .ok (.getfield 77, 3) := by decide +kernel
theorem dX11_performs_401 : decode cX11_performs 401 = .ok (.iload_n 2, 1) := by decide +kernel
theorem dX11_performs_402 : decode cX11_performs 402 = .ok (.iconst 1, 1) := by decide +kernel
theorem dX11_performs_403 : decode cX11_performs 403 = .ok (.iadd, 1) := by decide +kernel
theorem dX11_performs_404 : decode cX11_performs 404 = .ok (.iaload, 1) := by decide +kernel
theorem dX11_performs_405 : decode cX11_performs 405 = .ok (.ifCond .le 7, 3) := by decide +kernel
theorem dX11_performs_408 : decode cX11_performs 408 = .ok (.iconst 1, 1) := by decide +kernel
theorem dX11_performs_409 : decode cX11_performs 409 = .ok (.goto 4, 3) := by decide +kernel
theorem dX11_performs_412 : decode cX11_performs 412 = .ok (.iconst 0, 1) := by decide +kernel
theorem dX11_performs_413 : decode cX11_performs 413 = .ok (.istore 4, 2) := by decide +kernel
theorem dX11_performs_415 : decode cX11_performs 415 = .ok (.iload 4, 2) := by decide +kernel
theorem dX11_performs_417 : decode cX11_performs 417 = .ok (.ifCond .eq 20, 3) := by decide +kernel
theorem dX11_performs_420 : decode cX11_performs 420 = .ok (.aload_n 0, 1) := by decide +kernel
theorem dX11_performs_421 : decode cX11_performs 421 = .ok (.getfield 89, 3) := by decide +kernel
theorem dX11_performs_424 : decode cX11_performs 424 = .ok (.iload_n 1, 1) := by decide +kernel
theorem dX11_performs_425 : decode cX11_performs 425 = .ok (.aload_n 0, 1) := by decide +kernel
theorem dX11_performs_426 : decode cX11_performs 426 = .ok (.getfield 77, 3) := by decide +kernel
theorem dX11_performs_429 : decode cX11_performs 429 = .ok (.iload_n 2, 1) := by decide +kernel
theorem dX11_performs_430 : decode cX11_performs 430 = .ok (.iconst 1, 1) := by decide +kernel
theorem dX11_performs_431 : decode cX11_performs 431 = .ok (.iadd, 1) := by decide +kernel
theorem dX11_performs_432 : decode cX11_performs 432 = .ok (.iaload, 1) := by decide +kernel
theorem dX11_performs_433 : decode cX11_performs 433 = .ok (.iastore, 1) := by decide +kernel
theorem dX11_performs_434 : decode cX11_performs 434 = .ok (.iinc 1 1, 3) := by decide +kernel
theorem dX11_performs_437 : decode cX11_performs 437 = .ok (.iload 4, 2) := by decide +kernel
theorem dX11_performs_439 : decode cX11_performs 439 = .ok (.ifCond .eq 9, 3) := by decide +kernel
theorem dX11_performs_442 : decode cX11_performs 442 = .ok (.iload_n 2, 1) := by decide +kernel
theorem dX11_performs_443 : decode cX11_performs 443 = .ok (.iconst 3, 1) := by decide +kernel
theorem dX11_performs_444 : decode cX11_performs 444 = .ok (.iadd, 1) := by decide +kernel
theorem dX11_performs_445 : decode cX11_performs 445 = .ok (.goto 11, 3) := by decide +kernel
theorem dX11_performs_448 : decode cX11_performs 448 = .ok (.aload_n 0, 1) := by decide +kernel
theorem dX11_performs_449 : decode cX11_performs 449 = .ok (.getfield 77, 3) := by decide +kernel
theorem dX11_performs_452 : decode cX11_performs 452 = .ok (.iload_n 2, 1) := by decide +kernel
theorem dX11_performs_453 : decode cX11_performs 453 = .ok (.iconst 2, 1) := by decide +kernel
theorem dX11_performs_454 : decode cX11_performs 454 = .ok (.iadd, 1) := by decide +kernel
theorem dX11_performs_455 : decode cX11_performs 455 = .ok (.iaload, 1) := by decide +kernel
theorem dX11_performs_456 : decode cX11_performs 456 = .ok (.istore_n 2, 1) := by decide +kernel
theorem dX11_performs_457 : decode cX11_performs 457 = .ok (.goto 58, 3) := by decide +kernel
theorem dX11_performs_460 : decode cX11_performs 460 = .ok (.aload_n 0, 1) := by decide +kernel
theorem dX11_performs_461 : decode cX11_performs 461 = .ok (.aload_n 0, 1) := by decide +kernel
theorem dX11_performs_462 : decode cX11_performs 462 = .ok (.getfield 77, 3) := by decide +kernel
theorem dX11_performs_465 : decode cX11_performs 465 = .ok (.iload_n 2, 1) := by decide +kernel
theorem dX11_performs_466 : decode cX11_performs 466 = .ok (.iconst 2, 1) := by decide +kernel
theorem dX11_performs_467 : decode cX11_performs 467 = .ok (.iadd, 1) := by decide +kernel
theorem dX11_performs_468 : decode cX11_performs 468 = .ok (.iaload, 1) := by decide +kernel
theorem dX11_performs_469 : decode cX11_performs 469 = .ok (.aload_n 0, 1) := by decide +kernel
theorem dX11_performs_470 : decode cX11_performs 470 = .ok (.getfield 77, 3) := by decide +kernel
theorem dX11_performs_473 : decode cX11_performs 473 = .ok (.iload_n 2, 1) := by decide +kernel
theorem dX11_performs_474 : decode cX11_performs 474 = .ok (.iconst 3, 1) := by decide +kernel
theorem dX11_performs_475 : decode cX11_performs 475 = .ok (.iadd, 1) := by decide +kernel
theorem dX11_performs_476 : decode cX11_performs 476 = .ok (.iaload, 1) := by decide +kernel
theorem dX11_performs_477 : decode cX11_performs 477 = .ok (.invokevirtual 378, 3) := by decide +kernel
theorem dX11_performs_480 : decode cX11_performs 480 = .ok (.aload_n 0, 1) := by decide +kernel
theorem dX11_performs_481 : decode cX11_performs 481 = .ok (.getfield 77, 3) := by decide +kernel
theorem dX11_performs_484 : decode cX11_performs 484 = .ok (.iload_n 2, 1) := by decide +kernel
theorem dX11_performs_485 : decode cX11_performs 485 = .ok (.iconst 1, 1) := by decide +kernel
theorem dX11_performs_486 : decode cX11_performs 486 = .ok (.iadd, 1) := by decide +kernel
theorem dX11_performs_487 : decode cX11_performs 487 = .ok (.iaload, 1) := by decide +kernel
theorem dX11_performs_488 : decode cX11_performs 488 = .ok (.iconst 1, 1) := by decide +kernel
theorem dX11_performs_489 : decode cX11_performs 489 = .ok (.if_icmp .ne 7, 3) := by decide +kernel
theorem dX11_performs_492 : decode cX11_performs 492 = .ok (.iconst 1, 1) := by decide +kernel
theorem dX11_performs_493 : decode cX11_performs 493 = .ok (.goto 4, 3) := by decide +kernel
theorem dX11_performs_496 : decode cX11_performs 496 = .ok (.iconst 0, 1) := by decide +kernel
theorem dX11_performs_497 : decode cX11_performs 497 = .ok (.if_icmp .eq 9, 3) := by decide +kernel
theorem dX11_performs_500 : decode cX11_performs 500 = .ok (.iload_n 2, 1) := by decide +kernel
theorem dX11_performs_501 : decode cX11_performs 501 = .ok (.iconst 5, 1) := by decide +kernel
theorem dX11_performs_502 : decode cX11_performs 502 = .ok (.iadd, 1) := by decide +kernel
theorem dX11_performs_503 : decode cX11_performs 503 = .ok (.goto 11, 3) := by decide +kernel
theorem dX11_performs_506 : decode cX11_performs 506 = .ok (.aload_n 0, 1) := by decide +kernel
theorem dX11_performs_507 : decode cX11_performs 507 = .ok (.getfield 77, 3) := by decide +kernel
theorem dX11_performs_510 : decode cX11_performs 510 = .ok (.iload_n 2, 1) := by decide +kernel
theorem dX11_performs_511 : decode cX11_performs 511 = .ok (.iconst 4, 1) := by decide +kernel
theorem dX11_performs_512 : decode cX11_performs 512 = .ok (.iadd, 1) := by decide +kernel
theorem dX11_performs_513 : decode cX11_performs 513 = .ok (.iaload, 1) := by decide +kernel
theorem dX11_performs_514 : decode cX11_performs 514 = .ok (.istore_n 2, 1) := by decide +kernel
theorem dX11_performs_515 : decode cX11_performs 515 = .ok (.goto (-457), 3) := by decide +kernel
theorem dX11_performs_518 : decode cX11_performs 518 = .ok (.return_, 1) := by decide +kernel
theorem bX11_performs_0 {G : GX} {h : mH} {Q : mO → mH → Prop} (hi : Iv h) (K : Vw G jX11_performs 2 [some (.ref 83), some (.int 0), none, none, none] [] h Q) : Vw G jX11_performs 0 [some (.ref 83), none, none, none, none] [] h Q :=
  s_iconst 0 dX11_performs_0 (by decide) (s_istore_n dX11_performs_1 (Nat.le_of_ble_eq_true rfl) rfl (K))
theorem bX11_performs_2 {G : GX} {h : mH} {Q : mO → mH → Prop} {v1 : Int32} (hi : Iv h) (K : (729 ≤ v1 → WM G jX11_copies [.ref 83, .ref 87, .ref 110] h (Aft G jX11_performs 31 [some (.ref 83), none, none, none, none] [] Q)) ∧ (¬ 729 ≤ v1 → (vp_in v1 729 ∧ Vw G jX11_performs 2 [some (.ref 83), some (.int (v1 + 1)), none, none, none] [] (pI h 109 (Int32.toNatClampNeg v1) 0) Q))) : Vw G jX11_performs 2 [some (.ref 83), some (.int v1), none, none, none] [] h Q :=
  s_iload_n dX11_performs_2 rfl (s_sipush 729 dX11_performs_3 (by decide) (s_icmp_ge 22 dX11_performs_6 rfl (fun q2 => s_aload_n dX11_performs_22 rfl (s_aload_n dX11_performs_23 rfl (s_getR (v := .ref 87) dX11_performs_24 flX11_19 rfl (hi.sh rfl rfl) (hi.rf (o := 83) (k := 6) (d := 4) rfl rfl) (s_aload_n dX11_performs_27 rfl (s_getR (v := .ref 110) dX11_performs_28 flX11_95 rfl (hi.sh rfl rfl) (hi.rf (o := 83) (k := 50) (d := 27) rfl rfl) (Vw.mask [true, false, false, false, false] (s_callV (As := [.ref 87, .ref 110]) dX11_performs_31 rfl lvX11_222 ⟨Nat.le_of_ble_eq_true rfl, Nat.le_of_ble_eq_true rfl⟩ (hi.sh rfl rfl) ⟨_, _, by decide, rfl⟩ rfl (Nat.le_of_ble_eq_true rfl) ((K.1 q2))))))))) (fun q2 => s_aload_n dX11_performs_9 rfl (s_getR (v := .ref 109) dX11_performs_10 flX11_92 rfl (hi.sh rfl rfl) (hi.rf (o := 83) (k := 49) (d := 26) rfl rfl) (s_iload_n dX11_performs_13 rfl (s_iconst 0 dX11_performs_14 (by decide) (s_iastore dX11_performs_15 (hi.sh rfl rfl) (K.2 q2).1 (s_iinc 1 dX11_performs_16 rfl (by decide) (Nat.le_of_ble_eq_true rfl) rfl (s_goto 2 dX11_performs_19 rfl ((K.2 q2).2))))))))))
theorem bX11_performs_34 {G : GX} {h : mH} {Q : mO → mH → Prop} (hi : Iv h) (K : Vw G jX11_performs 58 [some (.ref 83), some (.int 0), some (.int 0), none, none] [] (pI (pI (pI (pI h 83 51 0) 83 52 0) 83 53 0) 83 54 0) Q) : Vw G jX11_performs 34 [some (.ref 83), none, none, none, none] [] h Q :=
  s_aload_n dX11_performs_34 rfl (s_iconst 0 dX11_performs_35 (by decide) (s_putI dX11_performs_36 flX11_369 ff10_51 rfl (hi.sh rfl rfl) (s_aload_n dX11_performs_39 rfl (s_iconst 0 dX11_performs_40 (by decide) (s_putI dX11_performs_41 flX11_356 ff10_52 rfl (hi.sh rfl rfl) (s_aload_n dX11_performs_44 rfl (s_iconst 0 dX11_performs_45 (by decide) (s_putZ dX11_performs_46 flX11_353 ff10_53 rfl (hi.sh rfl rfl) (by decide) (s_aload_n dX11_performs_49 rfl (s_iconst 0 dX11_performs_50 (by decide) (s_putZ dX11_performs_51 flX11_366 ff10_54 rfl (hi.sh rfl rfl) (by decide) (s_iconst 0 dX11_performs_54 (by decide) (s_istore_n dX11_performs_55 (Nat.le_of_ble_eq_true rfl) rfl (s_iconst 0 dX11_performs_56 (by decide) (s_istore_n dX11_performs_57 (Nat.le_of_ble_eq_true rfl) rfl (K))))))))))))))))
theorem bX11_performs_58 {G : GX} {h : mH} {Q : mO → mH → Prop} {v1 : Int32} {v2 : Int32} (hi : Iv h) (K : vp_in v2 600 ∧ (((gI h 104 (Int32.toNatClampNeg v2)) = 0 → Q (.inl none) h) ∧ (¬ (gI h 104 (Int32.toNatClampNeg v2)) = 0 → ((¬ (gI h 83 54) = 0 → Q (.inl none) h) ∧ ((gI h 83 54) = 0 → (vp_in v2 600 ∧ ((¬ (gI h 104 (Int32.toNatClampNeg v2)) = 100 → ((¬ (gI h 104 (Int32.toNatClampNeg v2)) = 101 → ((¬ (gI h 83 51) = 1000 → (((gI (pI h 83 54 0) 83 54) = 0 → ((¬ (gI h 104 (Int32.toNatClampNeg v2)) = 6 → ((¬ (gI h 104 (Int32.toNatClampNeg v2)) = 7 → (((gI h 104 (Int32.toNatClampNeg v2)) = 8 → Vw G jX11_performs 288 [some (.ref 83), some (.int v1), some (.int v2), some (.int (gI h 104 (Int32.toNatClampNeg v2))), none] [] (pI (pI h 83 54 0) 83 51 ((gI (pI h 83 54 0) 83 51) + 1)) Q) ∧ (¬ (gI h 104 (Int32.toNatClampNeg v2)) = 8 → ((¬ (gI h 104 (Int32.toNatClampNeg v2)) = 9 → ((¬ (gI h 104 (Int32.toNatClampNeg v2)) = 10 → ((¬ (gI h 104 (Int32.toNatClampNeg v2)) = 11 → (vp_in (v2 + 2) 600 ∧ (vp_in (v2 + 3) 600 ∧ WM G jX11_holds [.ref 83, .int (gI (pI (pI h 83 54 0) 83 51 ((gI (pI h 83 54 0) 83 51) + 1)) 104 (Int32.toNatClampNeg (v2 + 2))), .int (gI (pI (pI h 83 54 0) 83 51 ((gI (pI h 83 54 0) 83 51) + 1)) 104 (Int32.toNatClampNeg (v2 + 3)))] (pI (pI h 83 54 0) 83 51 ((gI (pI h 83 54 0) 83 51) + 1)) (Aft G jX11_performs 477 [some (.ref 83), some (.int v1), some (.int v2), none, none] [] Q)))) ∧ ((gI h 104 (Int32.toNatClampNeg v2)) = 11 → (vp_in (v2 + 1) 600 ∧ (((gI (pI (pI h 83 54 0) 83 51 ((gI (pI h 83 54 0) 83 51) + 1)) 104 (Int32.toNatClampNeg (v2 + 1))) ≤ 0 → Vw G jX11_performs 437 [some (.ref 83), some (.int v1), some (.int v2), none, some (.int 0)] [] (pI (pI h 83 54 0) 83 51 ((gI (pI h 83 54 0) 83 51) + 1)) Q) ∧ (¬ (gI (pI (pI h 83 54 0) 83 51 ((gI (pI h 83 54 0) 83 51) + 1)) 104 (Int32.toNatClampNeg (v2 + 1))) ≤ 0 → (vp_in (v2 + 1) 600 ∧ (vp_in v1 5 ∧ Vw G jX11_performs 437 [some (.ref 83), some (.int (v1 + 1)), some (.int v2), none, some (.int 1)] [] (pI (pI (pI h 83 54 0) 83 51 ((gI (pI h 83 54 0) 83 51) + 1)) 108 (Int32.toNatClampNeg v1) (gI (pI (pI h 83 54 0) 83 51 ((gI (pI h 83 54 0) 83 51) + 1)) 104 (Int32.toNatClampNeg (v2 + 1)))) Q)))))))) ∧ ((gI h 104 (Int32.toNatClampNeg v2)) = 10 → ((¬ (gI (pI (pI h 83 54 0) 83 51 ((gI (pI h 83 54 0) 83 51) + 1)) 83 53) = 0 → Vw G jX11_performs 515 [some (.ref 83), some (.int v1), some (.int (v2 + 1)), none, none] [] (pI (pI (pI h 83 54 0) 83 51 ((gI (pI h 83 54 0) 83 51) + 1)) 83 53 0) Q) ∧ ((gI (pI (pI h 83 54 0) 83 51 ((gI (pI h 83 54 0) 83 51) + 1)) 83 53) = 0 → Vw G jX11_performs 515 [some (.ref 83), some (.int v1), some (.int (v2 + 1)), none, none] [] (pI (pI (pI h 83 54 0) 83 51 ((gI (pI h 83 54 0) 83 51) + 1)) 83 53 1) Q))))) ∧ ((gI h 104 (Int32.toNatClampNeg v2)) = 9 → Vw G jX11_performs 288 [some (.ref 83), some (.int v1), some (.int v2), some (.int (gI h 104 (Int32.toNatClampNeg v2))), none] [] (pI (pI h 83 54 0) 83 51 ((gI (pI h 83 54 0) 83 51) + 1)) Q))))) ∧ ((gI h 104 (Int32.toNatClampNeg v2)) = 7 → (vp_in (v2 + 1) 600 ∧ (((gI (pI (pI (pI h 83 54 0) 83 51 ((gI (pI h 83 54 0) 83 51) + 1)) 83 52 ((gI (pI (pI h 83 54 0) 83 51 ((gI (pI h 83 54 0) 83 51) + 1)) 83 52) + (gI (pI (pI h 83 54 0) 83 51 ((gI (pI h 83 54 0) 83 51) + 1)) 104 (Int32.toNatClampNeg (v2 + 1))))) 83 52) < 10000 → Vw G jX11_performs 515 [some (.ref 83), some (.int v1), some (.int (v2 + 2)), none, none] [] (pI (pI (pI (pI h 83 54 0) 83 51 ((gI (pI h 83 54 0) 83 51) + 1)) 83 52 ((gI (pI (pI h 83 54 0) 83 51 ((gI (pI h 83 54 0) 83 51) + 1)) 83 52) + (gI (pI (pI h 83 54 0) 83 51 ((gI (pI h 83 54 0) 83 51) + 1)) 104 (Int32.toNatClampNeg (v2 + 1))))) 83 54 0) Q) ∧ (¬ (gI (pI (pI (pI h 83 54 0) 83 51 ((gI (pI h 83 54 0) 83 51) + 1)) 83 52 ((gI (pI (pI h 83 54 0) 83 51 ((gI (pI h 83 54 0) 83 51) + 1)) 83 52) + (gI (pI (pI h 83 54 0) 83 51 ((gI (pI h 83 54 0) 83 51) + 1)) 104 (Int32.toNatClampNeg (v2 + 1))))) 83 52) < 10000 → Vw G jX11_performs 515 [some (.ref 83), some (.int v1), some (.int (v2 + 2)), none, none] [] (pI (pI (pI (pI h 83 54 0) 83 51 ((gI (pI h 83 54 0) 83 51) + 1)) 83 52 ((gI (pI (pI h 83 54 0) 83 51 ((gI (pI h 83 54 0) 83 51) + 1)) 83 52) + (gI (pI (pI h 83 54 0) 83 51 ((gI (pI h 83 54 0) 83 51) + 1)) 104 (Int32.toNatClampNeg (v2 + 1))))) 83 54 1) Q)))))) ∧ ((gI h 104 (Int32.toNatClampNeg v2)) = 6 → (vp_in (v2 + 1) 600 ∧ WM G jX11_draws [.ref 83, .int (gI (pI (pI h 83 54 0) 83 51 ((gI (pI h 83 54 0) 83 51) + 1)) 104 (Int32.toNatClampNeg (v2 + 1)))] (pI (pI h 83 54 0) 83 51 ((gI (pI h 83 54 0) 83 51) + 1)) (Aft G jX11_performs 219 [some (.ref 83), some (.int v1), some (.int v2), none, none] [] Q))))) ∧ (¬ (gI (pI h 83 54 0) 83 54) = 0 → Vw G jX11_performs 58 [some (.ref 83), some (.int v1), some (.int v2), none, none] [] (pI h 83 54 0) Q))) ∧ ((gI h 83 51) = 1000 → (((gI (pI h 83 54 1) 83 54) = 0 → ((¬ (gI h 104 (Int32.toNatClampNeg v2)) = 6 → ((¬ (gI h 104 (Int32.toNatClampNeg v2)) = 7 → (((gI h 104 (Int32.toNatClampNeg v2)) = 8 → Vw G jX11_performs 288 [some (.ref 83), some (.int v1), some (.int v2), some (.int (gI h 104 (Int32.toNatClampNeg v2))), none] [] (pI (pI h 83 54 1) 83 51 ((gI (pI h 83 54 1) 83 51) + 1)) Q) ∧ (¬ (gI h 104 (Int32.toNatClampNeg v2)) = 8 → ((¬ (gI h 104 (Int32.toNatClampNeg v2)) = 9 → ((¬ (gI h 104 (Int32.toNatClampNeg v2)) = 10 → ((¬ (gI h 104 (Int32.toNatClampNeg v2)) = 11 → (vp_in (v2 + 2) 600 ∧ (vp_in (v2 + 3) 600 ∧ WM G jX11_holds [.ref 83, .int (gI (pI (pI h 83 54 1) 83 51 ((gI (pI h 83 54 1) 83 51) + 1)) 104 (Int32.toNatClampNeg (v2 + 2))), .int (gI (pI (pI h 83 54 1) 83 51 ((gI (pI h 83 54 1) 83 51) + 1)) 104 (Int32.toNatClampNeg (v2 + 3)))] (pI (pI h 83 54 1) 83 51 ((gI (pI h 83 54 1) 83 51) + 1)) (Aft G jX11_performs 477 [some (.ref 83), some (.int v1), some (.int v2), none, none] [] Q)))) ∧ ((gI h 104 (Int32.toNatClampNeg v2)) = 11 → (vp_in (v2 + 1) 600 ∧ (((gI (pI (pI h 83 54 1) 83 51 ((gI (pI h 83 54 1) 83 51) + 1)) 104 (Int32.toNatClampNeg (v2 + 1))) ≤ 0 → Vw G jX11_performs 437 [some (.ref 83), some (.int v1), some (.int v2), none, some (.int 0)] [] (pI (pI h 83 54 1) 83 51 ((gI (pI h 83 54 1) 83 51) + 1)) Q) ∧ (¬ (gI (pI (pI h 83 54 1) 83 51 ((gI (pI h 83 54 1) 83 51) + 1)) 104 (Int32.toNatClampNeg (v2 + 1))) ≤ 0 → (vp_in (v2 + 1) 600 ∧ (vp_in v1 5 ∧ Vw G jX11_performs 437 [some (.ref 83), some (.int (v1 + 1)), some (.int v2), none, some (.int 1)] [] (pI (pI (pI h 83 54 1) 83 51 ((gI (pI h 83 54 1) 83 51) + 1)) 108 (Int32.toNatClampNeg v1) (gI (pI (pI h 83 54 1) 83 51 ((gI (pI h 83 54 1) 83 51) + 1)) 104 (Int32.toNatClampNeg (v2 + 1)))) Q)))))))) ∧ ((gI h 104 (Int32.toNatClampNeg v2)) = 10 → ((¬ (gI (pI (pI h 83 54 1) 83 51 ((gI (pI h 83 54 1) 83 51) + 1)) 83 53) = 0 → Vw G jX11_performs 515 [some (.ref 83), some (.int v1), some (.int (v2 + 1)), none, none] [] (pI (pI (pI h 83 54 1) 83 51 ((gI (pI h 83 54 1) 83 51) + 1)) 83 53 0) Q) ∧ ((gI (pI (pI h 83 54 1) 83 51 ((gI (pI h 83 54 1) 83 51) + 1)) 83 53) = 0 → Vw G jX11_performs 515 [some (.ref 83), some (.int v1), some (.int (v2 + 1)), none, none] [] (pI (pI (pI h 83 54 1) 83 51 ((gI (pI h 83 54 1) 83 51) + 1)) 83 53 1) Q))))) ∧ ((gI h 104 (Int32.toNatClampNeg v2)) = 9 → Vw G jX11_performs 288 [some (.ref 83), some (.int v1), some (.int v2), some (.int (gI h 104 (Int32.toNatClampNeg v2))), none] [] (pI (pI h 83 54 1) 83 51 ((gI (pI h 83 54 1) 83 51) + 1)) Q))))) ∧ ((gI h 104 (Int32.toNatClampNeg v2)) = 7 → (vp_in (v2 + 1) 600 ∧ (((gI (pI (pI (pI h 83 54 1) 83 51 ((gI (pI h 83 54 1) 83 51) + 1)) 83 52 ((gI (pI (pI h 83 54 1) 83 51 ((gI (pI h 83 54 1) 83 51) + 1)) 83 52) + (gI (pI (pI h 83 54 1) 83 51 ((gI (pI h 83 54 1) 83 51) + 1)) 104 (Int32.toNatClampNeg (v2 + 1))))) 83 52) < 10000 → Vw G jX11_performs 515 [some (.ref 83), some (.int v1), some (.int (v2 + 2)), none, none] [] (pI (pI (pI (pI h 83 54 1) 83 51 ((gI (pI h 83 54 1) 83 51) + 1)) 83 52 ((gI (pI (pI h 83 54 1) 83 51 ((gI (pI h 83 54 1) 83 51) + 1)) 83 52) + (gI (pI (pI h 83 54 1) 83 51 ((gI (pI h 83 54 1) 83 51) + 1)) 104 (Int32.toNatClampNeg (v2 + 1))))) 83 54 0) Q) ∧ (¬ (gI (pI (pI (pI h 83 54 1) 83 51 ((gI (pI h 83 54 1) 83 51) + 1)) 83 52 ((gI (pI (pI h 83 54 1) 83 51 ((gI (pI h 83 54 1) 83 51) + 1)) 83 52) + (gI (pI (pI h 83 54 1) 83 51 ((gI (pI h 83 54 1) 83 51) + 1)) 104 (Int32.toNatClampNeg (v2 + 1))))) 83 52) < 10000 → Vw G jX11_performs 515 [some (.ref 83), some (.int v1), some (.int (v2 + 2)), none, none] [] (pI (pI (pI (pI h 83 54 1) 83 51 ((gI (pI h 83 54 1) 83 51) + 1)) 83 52 ((gI (pI (pI h 83 54 1) 83 51 ((gI (pI h 83 54 1) 83 51) + 1)) 83 52) + (gI (pI (pI h 83 54 1) 83 51 ((gI (pI h 83 54 1) 83 51) + 1)) 104 (Int32.toNatClampNeg (v2 + 1))))) 83 54 1) Q)))))) ∧ ((gI h 104 (Int32.toNatClampNeg v2)) = 6 → (vp_in (v2 + 1) 600 ∧ WM G jX11_draws [.ref 83, .int (gI (pI (pI h 83 54 1) 83 51 ((gI (pI h 83 54 1) 83 51) + 1)) 104 (Int32.toNatClampNeg (v2 + 1)))] (pI (pI h 83 54 1) 83 51 ((gI (pI h 83 54 1) 83 51) + 1)) (Aft G jX11_performs 219 [some (.ref 83), some (.int v1), some (.int v2), none, none] [] Q))))) ∧ (¬ (gI (pI h 83 54 1) 83 54) = 0 → Vw G jX11_performs 58 [some (.ref 83), some (.int v1), some (.int v2), none, none] [] (pI h 83 54 1) Q))))) ∧ ((gI h 104 (Int32.toNatClampNeg v2)) = 101 → (vp_in (v2 + 1) 600 ∧ Vw G jX11_performs 58 [some (.ref 83), some (.int v1), some (.int (gI h 104 (Int32.toNatClampNeg (v2 + 1)))), none, none] [] h Q)))) ∧ ((gI h 104 (Int32.toNatClampNeg v2)) = 100 → (vp_in (v1 - 1) 5 ∧ (vp_in (v1 - 1) 5 ∧ (vp_in (v1 - 1) 5 ∧ (((gI (pI h 108 (Int32.toNatClampNeg (v1 - 1)) ((gI h 108 (Int32.toNatClampNeg (v1 - 1))) - 1)) 108 (Int32.toNatClampNeg (v1 - 1))) ≤ 0 → (vp_in (v1 - 1) 5 ∧ (((gI (pI h 108 (Int32.toNatClampNeg (v1 - 1)) ((gI h 108 (Int32.toNatClampNeg (v1 - 1))) - 1)) 108 (Int32.toNatClampNeg (v1 - 1))) ≤ 0 → Vw G jX11_performs 58 [some (.ref 83), some (.int (v1 - 1)), some (.int (v2 + 2)), none, none] [] (pI h 108 (Int32.toNatClampNeg (v1 - 1)) ((gI h 108 (Int32.toNatClampNeg (v1 - 1))) - 1)) Q) ∧ (¬ (gI (pI h 108 (Int32.toNatClampNeg (v1 - 1)) ((gI h 108 (Int32.toNatClampNeg (v1 - 1))) - 1)) 108 (Int32.toNatClampNeg (v1 - 1))) ≤ 0 → Vw G jX11_performs 58 [some (.ref 83), some (.int (v1 - 0)), some (.int (v2 + 2)), none, none] [] (pI h 108 (Int32.toNatClampNeg (v1 - 1)) ((gI h 108 (Int32.toNatClampNeg (v1 - 1))) - 1)) Q)))) ∧ (¬ (gI (pI h 108 (Int32.toNatClampNeg (v1 - 1)) ((gI h 108 (Int32.toNatClampNeg (v1 - 1))) - 1)) 108 (Int32.toNatClampNeg (v1 - 1))) ≤ 0 → (vp_in (v2 + 1) 600 ∧ (vp_in (v1 - 1) 5 ∧ (((gI (pI h 108 (Int32.toNatClampNeg (v1 - 1)) ((gI h 108 (Int32.toNatClampNeg (v1 - 1))) - 1)) 108 (Int32.toNatClampNeg (v1 - 1))) ≤ 0 → Vw G jX11_performs 58 [some (.ref 83), some (.int (v1 - 1)), some (.int (gI (pI h 108 (Int32.toNatClampNeg (v1 - 1)) ((gI h 108 (Int32.toNatClampNeg (v1 - 1))) - 1)) 104 (Int32.toNatClampNeg (v2 + 1)))), none, none] [] (pI h 108 (Int32.toNatClampNeg (v1 - 1)) ((gI h 108 (Int32.toNatClampNeg (v1 - 1))) - 1)) Q) ∧ (¬ (gI (pI h 108 (Int32.toNatClampNeg (v1 - 1)) ((gI h 108 (Int32.toNatClampNeg (v1 - 1))) - 1)) 108 (Int32.toNatClampNeg (v1 - 1))) ≤ 0 → Vw G jX11_performs 58 [some (.ref 83), some (.int (v1 - 0)), some (.int (gI (pI h 108 (Int32.toNatClampNeg (v1 - 1)) ((gI h 108 (Int32.toNatClampNeg (v1 - 1))) - 1)) 104 (Int32.toNatClampNeg (v2 + 1)))), none, none] [] (pI h 108 (Int32.toNatClampNeg (v1 - 1)) ((gI h 108 (Int32.toNatClampNeg (v1 - 1))) - 1)) Q))))))))))))))))) : Vw G jX11_performs 58 [some (.ref 83), some (.int v1), some (.int v2), none, none] [] h Q :=
  s_aload_n dX11_performs_58 rfl (s_getR (v := .ref 104) dX11_performs_59 flX11_77 rfl (hi.sh rfl rfl) (hi.rf (o := 83) (k := 42) (d := 21) rfl rfl) (s_iload_n dX11_performs_62 rfl (s_iaload dX11_performs_63 (hi.sh rfl rfl) K.1 (s_if_eq 518 dX11_performs_64 rfl (fun q4 => s_return dX11_performs_518 rfl (K.2.1 q4)) (fun q4 => s_aload_n dX11_performs_67 rfl (s_getI dX11_performs_68 flX11_366 (Or.inr rfl) (hi.sh rfl rfl) (s_if_ne 518 dX11_performs_71 rfl (fun q7 => s_return dX11_performs_518 rfl ((K.2.2 q4).1 q7)) (fun q7 => s_aload_n dX11_performs_74 rfl (s_getR (v := .ref 104) dX11_performs_75 flX11_77 rfl (hi.sh rfl rfl) (hi.rf (o := 83) (k := 42) (d := 21) rfl rfl) (s_iload_n dX11_performs_78 rfl (s_iaload dX11_performs_79 (hi.sh rfl rfl) ((K.2.2 q4).2 q7).1 (s_istore_n dX11_performs_80 (Nat.le_of_ble_eq_true rfl) rfl (s_iload_n dX11_performs_81 rfl (s_bipush 100 dX11_performs_82 (by decide) (s_icmp_ne 147 dX11_performs_84 rfl (fun q15 => s_iload_n dX11_performs_147 rfl (s_bipush 101 dX11_performs_148 (by decide) (s_icmp_ne 165 dX11_performs_150 rfl (fun q18 => s_aload_n dX11_performs_165 rfl (s_aload_n dX11_performs_166 rfl (s_getI dX11_performs_167 flX11_369 (Or.inl rfl) (hi.sh rfl rfl) (s_sipush 1000 dX11_performs_170 (by decide) (s_icmp_ne 180 dX11_performs_173 rfl (fun q23 => s_iconst 0 dX11_performs_180 (by decide) (s_putZ dX11_performs_181 flX11_366 ff10_54 rfl (hi.sh rfl rfl) (by decide) (s_aload_n dX11_performs_184 rfl (s_getI dX11_performs_185 flX11_366 (Or.inr rfl) (hi.sh rfl rfl) (s_if_eq 194 dX11_performs_188 rfl (fun q28 => s_aload_n dX11_performs_194 rfl (s_dupr dX11_performs_195 (s_getI dX11_performs_196 flX11_369 (Or.inl rfl) (hi.sh rfl rfl) (s_iconst 1 dX11_performs_199 (by decide) (s_iadd dX11_performs_200 (s_putI dX11_performs_201 flX11_369 ff10_51 rfl (hi.sh rfl rfl) (s_iload_n dX11_performs_204 rfl (s_bipush 6 dX11_performs_205 (by decide) (s_icmp_ne 228 dX11_performs_207 rfl (fun q37 => s_iload_n dX11_performs_228 rfl (s_bipush 7 dX11_performs_229 (by decide) (s_icmp_ne 276 dX11_performs_231 rfl (fun q40 => s_iload_n dX11_performs_276 rfl (s_bipush 8 dX11_performs_277 (by decide) (s_icmp_eq 288 dX11_performs_279 rfl (fun q43 => (((((((((K.2.2 q4).2 q7).2.1 q15).1 q18).1 q23).1 q28).1 q37).1 q40).1 q43)) (fun q43 => s_iload_n dX11_performs_282 rfl (s_bipush 9 dX11_performs_283 (by decide) (s_icmp_ne 363 dX11_performs_285 rfl (fun q46 => s_iload_n dX11_performs_363 rfl (s_bipush 10 dX11_performs_364 (by decide) (s_icmp_ne 391 dX11_performs_366 rfl (fun q49 => s_iload_n dX11_performs_391 rfl (s_bipush 11 dX11_performs_392 (by decide) (s_icmp_ne 460 dX11_performs_394 rfl (fun q52 => s_aload_n dX11_performs_460 rfl (s_aload_n dX11_performs_461 rfl (s_getR (v := .ref 104) dX11_performs_462 flX11_77 rfl (hi.sh rfl rfl) (hi.rf (o := 83) (k := 42) (d := 21) rfl rfl) (s_iload_n dX11_performs_465 rfl (s_iconst 2 dX11_performs_466 (by decide) (s_iadd dX11_performs_467 (s_iaload dX11_performs_468 (hi.sh rfl rfl) ((((((((((((K.2.2 q4).2 q7).2.1 q15).1 q18).1 q23).1 q28).1 q37).1 q40).2 q43).1 q46).1 q49).1 q52).1 (s_aload_n dX11_performs_469 rfl (s_getR (v := .ref 104) dX11_performs_470 flX11_77 rfl (hi.sh rfl rfl) (hi.rf (o := 83) (k := 42) (d := 21) rfl rfl) (s_iload_n dX11_performs_473 rfl (s_iconst 3 dX11_performs_474 (by decide) (s_iadd dX11_performs_475 (s_iaload dX11_performs_476 (hi.sh rfl rfl) ((((((((((((K.2.2 q4).2 q7).2.1 q15).1 q18).1 q23).1 q28).1 q37).1 q40).2 q43).1 q46).1 q49).1 q52).2.1 (Vw.mask [true, true, true, false, false] (s_callV (As := [.int (gI (pI (pI h 83 54 0) 83 51 ((gI (pI h 83 54 0) 83 51) + 1)) 104 (Int32.toNatClampNeg (v2 + 2))), .int (gI (pI (pI h 83 54 0) 83 51 ((gI (pI h 83 54 0) 83 51) + 1)) 104 (Int32.toNatClampNeg (v2 + 3)))]) dX11_performs_477 rfl lvX11_378 ⟨Nat.le_of_ble_eq_true rfl, Nat.le_of_ble_eq_true rfl⟩ (hi.sh rfl rfl) ⟨_, _, by decide, rfl⟩ rfl (Nat.le_of_ble_eq_true rfl) (((((((((((((K.2.2 q4).2 q7).2.1 q15).1 q18).1 q23).1 q28).1 q37).1 q40).2 q43).1 q46).1 q49).1 q52).2.2)))))))))))))))) (fun q52 => s_aload_n dX11_performs_397 rfl (s_getR (v := .ref 104) dX11_performs_398 flX11_77 rfl (hi.sh rfl rfl) (hi.rf (o := 83) (k := 42) (d := 21) rfl rfl) (s_iload_n dX11_performs_401 rfl (s_iconst 1 dX11_performs_402 (by decide) (s_iadd dX11_performs_403 (s_iaload dX11_performs_404 (hi.sh rfl rfl) ((((((((((((K.2.2 q4).2 q7).2.1 q15).1 q18).1 q23).1 q28).1 q37).1 q40).2 q43).1 q46).1 q49).2 q52).1 (s_if_le 412 dX11_performs_405 rfl (fun q59 => s_iconst 0 dX11_performs_412 (by decide) (s_istore dX11_performs_413 (Nat.le_of_ble_eq_true rfl) rfl (s_iload dX11_performs_415 rfl (s_if_eq 437 dX11_performs_417 rfl (fun _ => Vw.mask [true, true, true, false, true] ((((((((((((((K.2.2 q4).2 q7).2.1 q15).1 q18).1 q23).1 q28).1 q37).1 q40).2 q43).1 q46).1 q49).2 q52).2.1 q59))) (fun q => absurd (by decide) q))))) (fun q59 => s_iconst 1 dX11_performs_408 (by decide) (s_goto 413 dX11_performs_409 rfl (s_istore dX11_performs_413 (Nat.le_of_ble_eq_true rfl) rfl (s_iload dX11_performs_415 rfl (s_if_eq 437 dX11_performs_417 rfl (fun q => absurd q (by decide)) (fun _ => s_aload_n dX11_performs_420 rfl (s_getR (v := .ref 108) dX11_performs_421 flX11_89 rfl (hi.sh rfl rfl) (hi.rf (o := 83) (k := 46) (d := 25) rfl rfl) (s_iload_n dX11_performs_424 rfl (s_aload_n dX11_performs_425 rfl (s_getR (v := .ref 104) dX11_performs_426 flX11_77 rfl (hi.sh rfl rfl) (hi.rf (o := 83) (k := 42) (d := 21) rfl rfl) (s_iload_n dX11_performs_429 rfl (s_iconst 1 dX11_performs_430 (by decide) (s_iadd dX11_performs_431 (s_iaload dX11_performs_432 (hi.sh rfl rfl) (((((((((((((K.2.2 q4).2 q7).2.1 q15).1 q18).1 q23).1 q28).1 q37).1 q40).2 q43).1 q46).1 q49).2 q52).2.2 q59).1 (s_iastore dX11_performs_433 (hi.sh rfl rfl) (((((((((((((K.2.2 q4).2 q7).2.1 q15).1 q18).1 q23).1 q28).1 q37).1 q40).2 q43).1 q46).1 q49).2 q52).2.2 q59).2.1 (s_iinc 1 dX11_performs_434 rfl (by decide) (Nat.le_of_ble_eq_true rfl) rfl (Vw.mask [true, true, true, false, true] ((((((((((((((K.2.2 q4).2 q7).2.1 q15).1 q18).1 q23).1 q28).1 q37).1 q40).2 q43).1 q46).1 q49).2 q52).2.2 q59).2.2)))))))))))))))))))))))))))) (fun q49 => s_aload_n dX11_performs_369 rfl (s_aload_n dX11_performs_370 rfl (s_getI dX11_performs_371 flX11_353 (Or.inr rfl) (hi.sh rfl rfl) (s_if_ne 381 dX11_performs_374 rfl (fun q53 => s_iconst 0 dX11_performs_381 (by decide) (s_putZ dX11_performs_382 flX11_353 ff10_53 rfl (hi.sh rfl rfl) (by decide) (s_iinc 1 dX11_performs_385 rfl (by decide) (Nat.le_of_ble_eq_true rfl) rfl (s_goto 515 dX11_performs_388 rfl (Vw.mask [true, true, true, false, false] (((((((((((((K.2.2 q4).2 q7).2.1 q15).1 q18).1 q23).1 q28).1 q37).1 q40).2 q43).1 q46).2 q49).1 q53))))))) (fun q53 => s_iconst 1 dX11_performs_377 (by decide) (s_goto 382 dX11_performs_378 rfl (s_putZ dX11_performs_382 flX11_353 ff10_53 rfl (hi.sh rfl rfl) (by decide) (s_iinc 1 dX11_performs_385 rfl (by decide) (Nat.le_of_ble_eq_true rfl) rfl (s_goto 515 dX11_performs_388 rfl (Vw.mask [true, true, true, false, false] (((((((((((((K.2.2 q4).2 q7).2.1 q15).1 q18).1 q23).1 q28).1 q37).1 q40).2 q43).1 q46).2 q49).2 q53))))))))))))))) (fun q46 => ((((((((((K.2.2 q4).2 q7).2.1 q15).1 q18).1 q23).1 q28).1 q37).1 q40).2 q43).2 q46)))))))) (fun q40 => s_aload_n dX11_performs_234 rfl (s_dupr dX11_performs_235 (s_getI dX11_performs_236 flX11_356 (Or.inl rfl) (hi.sh rfl rfl) (s_aload_n dX11_performs_239 rfl (s_getR (v := .ref 104) dX11_performs_240 flX11_77 rfl (hi.sh rfl rfl) (hi.rf (o := 83) (k := 42) (d := 21) rfl rfl) (s_iload_n dX11_performs_243 rfl (s_iconst 1 dX11_performs_244 (by decide) (s_iadd dX11_performs_245 (s_iaload dX11_performs_246 (hi.sh rfl rfl) ((((((((K.2.2 q4).2 q7).2.1 q15).1 q18).1 q23).1 q28).1 q37).2 q40).1 (s_iadd dX11_performs_247 (s_putI dX11_performs_248 flX11_356 ff10_52 rfl (hi.sh rfl rfl) (s_aload_n dX11_performs_251 rfl (s_aload_n dX11_performs_252 rfl (s_getI dX11_performs_253 flX11_356 (Or.inl rfl) (hi.sh rfl rfl) (s_sipush 10000 dX11_performs_256 (by decide) (s_icmp_lt 266 dX11_performs_259 rfl (fun q56 => s_iconst 0 dX11_performs_266 (by decide) (s_putZ dX11_performs_267 flX11_366 ff10_54 rfl (hi.sh rfl rfl) (by decide) (s_iinc 2 dX11_performs_270 rfl (by decide) (Nat.le_of_ble_eq_true rfl) rfl (s_goto 515 dX11_performs_273 rfl (Vw.mask [true, true, true, false, false] ((((((((((K.2.2 q4).2 q7).2.1 q15).1 q18).1 q23).1 q28).1 q37).2 q40).2.1 q56))))))) (fun q56 => s_iconst 1 dX11_performs_262 (by decide) (s_goto 267 dX11_performs_263 rfl (s_putZ dX11_performs_267 flX11_366 ff10_54 rfl (hi.sh rfl rfl) (by decide) (s_iinc 2 dX11_performs_270 rfl (by decide) (Nat.le_of_ble_eq_true rfl) rfl (s_goto 515 dX11_performs_273 rfl (Vw.mask [true, true, true, false, false] ((((((((((K.2.2 q4).2 q7).2.1 q15).1 q18).1 q23).1 q28).1 q37).2 q40).2.2 q56))))))))))))))))))))))))))) (fun q37 => s_aload_n dX11_performs_210 rfl (s_aload_n dX11_performs_211 rfl (s_getR (v := .ref 104) dX11_performs_212 flX11_77 rfl (hi.sh rfl rfl) (hi.rf (o := 83) (k := 42) (d := 21) rfl rfl) (s_iload_n dX11_performs_215 rfl (s_iconst 1 dX11_performs_216 (by decide) (s_iadd dX11_performs_217 (s_iaload dX11_performs_218 (hi.sh rfl rfl) (((((((K.2.2 q4).2 q7).2.1 q15).1 q18).1 q23).1 q28).2 q37).1 (Vw.mask [true, true, true, false, false] (s_callV (As := [.int (gI (pI (pI h 83 54 0) 83 51 ((gI (pI h 83 54 0) 83 51) + 1)) 104 (Int32.toNatClampNeg (v2 + 1)))]) dX11_performs_219 rfl lvX11_372 ⟨Nat.le_of_ble_eq_true rfl, Nat.le_of_ble_eq_true rfl⟩ (hi.sh rfl rfl) ⟨_, _, by decide, rfl⟩ rfl (Nat.le_of_ble_eq_true rfl) ((((((((K.2.2 q4).2 q7).2.1 q15).1 q18).1 q23).1 q28).2 q37).2))))))))))))))))))) (fun q28 => s_goto 58 dX11_performs_191 rfl (Vw.mask [true, true, true, false, false] (((((((K.2.2 q4).2 q7).2.1 q15).1 q18).1 q23).2 q28))))))))) (fun q23 => s_iconst 1 dX11_performs_176 (by decide) (s_goto 181 dX11_performs_177 rfl (s_putZ dX11_performs_181 flX11_366 ff10_54 rfl (hi.sh rfl rfl) (by decide) (s_aload_n dX11_performs_184 rfl (s_getI dX11_performs_185 flX11_366 (Or.inr rfl) (hi.sh rfl rfl) (s_if_eq 194 dX11_performs_188 rfl (fun q29 => s_aload_n dX11_performs_194 rfl (s_dupr dX11_performs_195 (s_getI dX11_performs_196 flX11_369 (Or.inl rfl) (hi.sh rfl rfl) (s_iconst 1 dX11_performs_199 (by decide) (s_iadd dX11_performs_200 (s_putI dX11_performs_201 flX11_369 ff10_51 rfl (hi.sh rfl rfl) (s_iload_n dX11_performs_204 rfl (s_bipush 6 dX11_performs_205 (by decide) (s_icmp_ne 228 dX11_performs_207 rfl (fun q38 => s_iload_n dX11_performs_228 rfl (s_bipush 7 dX11_performs_229 (by decide) (s_icmp_ne 276 dX11_performs_231 rfl (fun q41 => s_iload_n dX11_performs_276 rfl (s_bipush 8 dX11_performs_277 (by decide) (s_icmp_eq 288 dX11_performs_279 rfl (fun q44 => (((((((((K.2.2 q4).2 q7).2.1 q15).1 q18).2 q23).1 q29).1 q38).1 q41).1 q44)) (fun q44 => s_iload_n dX11_performs_282 rfl (s_bipush 9 dX11_performs_283 (by decide) (s_icmp_ne 363 dX11_performs_285 rfl (fun q47 => s_iload_n dX11_performs_363 rfl (s_bipush 10 dX11_performs_364 (by decide) (s_icmp_ne 391 dX11_performs_366 rfl (fun q50 => s_iload_n dX11_performs_391 rfl (s_bipush 11 dX11_performs_392 (by decide) (s_icmp_ne 460 dX11_performs_394 rfl (fun q53 => s_aload_n dX11_performs_460 rfl (s_aload_n dX11_performs_461 rfl (s_getR (v := .ref 104) dX11_performs_462 flX11_77 rfl (hi.sh rfl rfl) (hi.rf (o := 83) (k := 42) (d := 21) rfl rfl) (s_iload_n dX11_performs_465 rfl (s_iconst 2 dX11_performs_466 (by decide) (s_iadd dX11_performs_467 (s_iaload dX11_performs_468 (hi.sh rfl rfl) ((((((((((((K.2.2 q4).2 q7).2.1 q15).1 q18).2 q23).1 q29).1 q38).1 q41).2 q44).1 q47).1 q50).1 q53).1 (s_aload_n dX11_performs_469 rfl (s_getR (v := .ref 104) dX11_performs_470 flX11_77 rfl (hi.sh rfl rfl) (hi.rf (o := 83) (k := 42) (d := 21) rfl rfl) (s_iload_n dX11_performs_473 rfl (s_iconst 3 dX11_performs_474 (by decide) (s_iadd dX11_performs_475 (s_iaload dX11_performs_476 (hi.sh rfl rfl) ((((((((((((K.2.2 q4).2 q7).2.1 q15).1 q18).2 q23).1 q29).1 q38).1 q41).2 q44).1 q47).1 q50).1 q53).2.1 (Vw.mask [true, true, true, false, false] (s_callV (As := [.int (gI (pI (pI h 83 54 1) 83 51 ((gI (pI h 83 54 1) 83 51) + 1)) 104 (Int32.toNatClampNeg (v2 + 2))), .int (gI (pI (pI h 83 54 1) 83 51 ((gI (pI h 83 54 1) 83 51) + 1)) 104 (Int32.toNatClampNeg (v2 + 3)))]) dX11_performs_477 rfl lvX11_378 ⟨Nat.le_of_ble_eq_true rfl, Nat.le_of_ble_eq_true rfl⟩ (hi.sh rfl rfl) ⟨_, _, by decide, rfl⟩ rfl (Nat.le_of_ble_eq_true rfl) (((((((((((((K.2.2 q4).2 q7).2.1 q15).1 q18).2 q23).1 q29).1 q38).1 q41).2 q44).1 q47).1 q50).1 q53).2.2)))))))))))))))) (fun q53 => s_aload_n dX11_performs_397 rfl (s_getR (v := .ref 104) dX11_performs_398 flX11_77 rfl (hi.sh rfl rfl) (hi.rf (o := 83) (k := 42) (d := 21) rfl rfl) (s_iload_n dX11_performs_401 rfl (s_iconst 1 dX11_performs_402 (by decide) (s_iadd dX11_performs_403 (s_iaload dX11_performs_404 (hi.sh rfl rfl) ((((((((((((K.2.2 q4).2 q7).2.1 q15).1 q18).2 q23).1 q29).1 q38).1 q41).2 q44).1 q47).1 q50).2 q53).1 (s_if_le 412 dX11_performs_405 rfl (fun q60 => s_iconst 0 dX11_performs_412 (by decide) (s_istore dX11_performs_413 (Nat.le_of_ble_eq_true rfl) rfl (s_iload dX11_performs_415 rfl (s_if_eq 437 dX11_performs_417 rfl (fun _ => Vw.mask [true, true, true, false, true] ((((((((((((((K.2.2 q4).2 q7).2.1 q15).1 q18).2 q23).1 q29).1 q38).1 q41).2 q44).1 q47).1 q50).2 q53).2.1 q60))) (fun q => absurd (by decide) q))))) (fun q60 => s_iconst 1 dX11_performs_408 (by decide) (s_goto 413 dX11_performs_409 rfl (s_istore dX11_performs_413 (Nat.le_of_ble_eq_true rfl) rfl (s_iload dX11_performs_415 rfl (s_if_eq 437 dX11_performs_417 rfl (fun q => absurd q (by decide)) (fun _ => s_aload_n dX11_performs_420 rfl (s_getR (v := .ref 108) dX11_performs_421 flX11_89 rfl (hi.sh rfl rfl) (hi.rf (o := 83) (k := 46) (d := 25) rfl rfl) (s_iload_n dX11_performs_424 rfl (s_aload_n dX11_performs_425 rfl (s_getR (v := .ref 104) dX11_performs_426 flX11_77 rfl (hi.sh rfl rfl) (hi.rf (o := 83) (k := 42) (d := 21) rfl rfl) (s_iload_n dX11_performs_429 rfl (s_iconst 1 dX11_performs_430 (by decide) (s_iadd dX11_performs_431 (s_iaload dX11_performs_432 (hi.sh rfl rfl) (((((((((((((K.2.2 q4).2 q7).2.1 q15).1 q18).2 q23).1 q29).1 q38).1 q41).2 q44).1 q47).1 q50).2 q53).2.2 q60).1 (s_iastore dX11_performs_433 (hi.sh rfl rfl) (((((((((((((K.2.2 q4).2 q7).2.1 q15).1 q18).2 q23).1 q29).1 q38).1 q41).2 q44).1 q47).1 q50).2 q53).2.2 q60).2.1 (s_iinc 1 dX11_performs_434 rfl (by decide) (Nat.le_of_ble_eq_true rfl) rfl (Vw.mask [true, true, true, false, true] ((((((((((((((K.2.2 q4).2 q7).2.1 q15).1 q18).2 q23).1 q29).1 q38).1 q41).2 q44).1 q47).1 q50).2 q53).2.2 q60).2.2)))))))))))))))))))))))))))) (fun q50 => s_aload_n dX11_performs_369 rfl (s_aload_n dX11_performs_370 rfl (s_getI dX11_performs_371 flX11_353 (Or.inr rfl) (hi.sh rfl rfl) (s_if_ne 381 dX11_performs_374 rfl (fun q54 => s_iconst 0 dX11_performs_381 (by decide) (s_putZ dX11_performs_382 flX11_353 ff10_53 rfl (hi.sh rfl rfl) (by decide) (s_iinc 1 dX11_performs_385 rfl (by decide) (Nat.le_of_ble_eq_true rfl) rfl (s_goto 515 dX11_performs_388 rfl (Vw.mask [true, true, true, false, false] (((((((((((((K.2.2 q4).2 q7).2.1 q15).1 q18).2 q23).1 q29).1 q38).1 q41).2 q44).1 q47).2 q50).1 q54))))))) (fun q54 => s_iconst 1 dX11_performs_377 (by decide) (s_goto 382 dX11_performs_378 rfl (s_putZ dX11_performs_382 flX11_353 ff10_53 rfl (hi.sh rfl rfl) (by decide) (s_iinc 1 dX11_performs_385 rfl (by decide) (Nat.le_of_ble_eq_true rfl) rfl (s_goto 515 dX11_performs_388 rfl (Vw.mask [true, true, true, false, false] (((((((((((((K.2.2 q4).2 q7).2.1 q15).1 q18).2 q23).1 q29).1 q38).1 q41).2 q44).1 q47).2 q50).2 q54))))))))))))))) (fun q47 => ((((((((((K.2.2 q4).2 q7).2.1 q15).1 q18).2 q23).1 q29).1 q38).1 q41).2 q44).2 q47)))))))) (fun q41 => s_aload_n dX11_performs_234 rfl (s_dupr dX11_performs_235 (s_getI dX11_performs_236 flX11_356 (Or.inl rfl) (hi.sh rfl rfl) (s_aload_n dX11_performs_239 rfl (s_getR (v := .ref 104) dX11_performs_240 flX11_77 rfl (hi.sh rfl rfl) (hi.rf (o := 83) (k := 42) (d := 21) rfl rfl) (s_iload_n dX11_performs_243 rfl (s_iconst 1 dX11_performs_244 (by decide) (s_iadd dX11_performs_245 (s_iaload dX11_performs_246 (hi.sh rfl rfl) ((((((((K.2.2 q4).2 q7).2.1 q15).1 q18).2 q23).1 q29).1 q38).2 q41).1 (s_iadd dX11_performs_247 (s_putI dX11_performs_248 flX11_356 ff10_52 rfl (hi.sh rfl rfl) (s_aload_n dX11_performs_251 rfl (s_aload_n dX11_performs_252 rfl (s_getI dX11_performs_253 flX11_356 (Or.inl rfl) (hi.sh rfl rfl) (s_sipush 10000 dX11_performs_256 (by decide) (s_icmp_lt 266 dX11_performs_259 rfl (fun q57 => s_iconst 0 dX11_performs_266 (by decide) (s_putZ dX11_performs_267 flX11_366 ff10_54 rfl (hi.sh rfl rfl) (by decide) (s_iinc 2 dX11_performs_270 rfl (by decide) (Nat.le_of_ble_eq_true rfl) rfl (s_goto 515 dX11_performs_273 rfl (Vw.mask [true, true, true, false, false] ((((((((((K.2.2 q4).2 q7).2.1 q15).1 q18).2 q23).1 q29).1 q38).2 q41).2.1 q57))))))) (fun q57 => s_iconst 1 dX11_performs_262 (by decide) (s_goto 267 dX11_performs_263 rfl (s_putZ dX11_performs_267 flX11_366 ff10_54 rfl (hi.sh rfl rfl) (by decide) (s_iinc 2 dX11_performs_270 rfl (by decide) (Nat.le_of_ble_eq_true rfl) rfl (s_goto 515 dX11_performs_273 rfl (Vw.mask [true, true, true, false, false] ((((((((((K.2.2 q4).2 q7).2.1 q15).1 q18).2 q23).1 q29).1 q38).2 q41).2.2 q57))))))))))))))))))))))))))) (fun q38 => s_aload_n dX11_performs_210 rfl (s_aload_n dX11_performs_211 rfl (s_getR (v := .ref 104) dX11_performs_212 flX11_77 rfl (hi.sh rfl rfl) (hi.rf (o := 83) (k := 42) (d := 21) rfl rfl) (s_iload_n dX11_performs_215 rfl (s_iconst 1 dX11_performs_216 (by decide) (s_iadd dX11_performs_217 (s_iaload dX11_performs_218 (hi.sh rfl rfl) (((((((K.2.2 q4).2 q7).2.1 q15).1 q18).2 q23).1 q29).2 q38).1 (Vw.mask [true, true, true, false, false] (s_callV (As := [.int (gI (pI (pI h 83 54 1) 83 51 ((gI (pI h 83 54 1) 83 51) + 1)) 104 (Int32.toNatClampNeg (v2 + 1)))]) dX11_performs_219 rfl lvX11_372 ⟨Nat.le_of_ble_eq_true rfl, Nat.le_of_ble_eq_true rfl⟩ (hi.sh rfl rfl) ⟨_, _, by decide, rfl⟩ rfl (Nat.le_of_ble_eq_true rfl) ((((((((K.2.2 q4).2 q7).2.1 q15).1 q18).2 q23).1 q29).2 q38).2))))))))))))))))))) (fun q29 => s_goto 58 dX11_performs_191 rfl (Vw.mask [true, true, true, false, false] (((((((K.2.2 q4).2 q7).2.1 q15).1 q18).2 q23).2 q29))))))))))))))) (fun q18 => s_aload_n dX11_performs_153 rfl (s_getR (v := .ref 104) dX11_performs_154 flX11_77 rfl (hi.sh rfl rfl) (hi.rf (o := 83) (k := 42) (d := 21) rfl rfl) (s_iload_n dX11_performs_157 rfl (s_iconst 1 dX11_performs_158 (by decide) (s_iadd dX11_performs_159 (s_iaload dX11_performs_160 (hi.sh rfl rfl) ((((K.2.2 q4).2 q7).2.1 q15).2 q18).1 (s_istore_n dX11_performs_161 (Nat.le_of_ble_eq_true rfl) rfl (s_goto 58 dX11_performs_162 rfl (Vw.mask [true, true, true, false, false] (((((K.2.2 q4).2 q7).2.1 q15).2 q18).2))))))))))))) (fun q15 => s_aload_n dX11_performs_87 rfl (s_getR (v := .ref 108) dX11_performs_88 flX11_89 rfl (hi.sh rfl rfl) (hi.rf (o := 83) (k := 46) (d := 25) rfl rfl) (s_iload_n dX11_performs_91 rfl (s_iconst 1 dX11_performs_92 (by decide) (s_isub dX11_performs_93 (s_dup2ir dX11_performs_94 (s_iaload dX11_performs_95 (hi.sh rfl rfl) (((K.2.2 q4).2 q7).2.2 q15).1 (s_iconst 1 dX11_performs_96 (by decide) (s_isub dX11_performs_97 (s_iastore dX11_performs_98 (hi.sh rfl rfl) (((K.2.2 q4).2 q7).2.2 q15).2.1 (s_aload_n dX11_performs_99 rfl (s_getR (v := .ref 108) dX11_performs_100 flX11_89 rfl (hi.sh rfl rfl) (hi.rf (o := 83) (k := 46) (d := 25) rfl rfl) (s_iload_n dX11_performs_103 rfl (s_iconst 1 dX11_performs_104 (by decide) (s_isub dX11_performs_105 (s_iaload dX11_performs_106 (hi.sh rfl rfl) (((K.2.2 q4).2 q7).2.2 q15).2.2.1 (s_if_le 121 dX11_performs_107 rfl (fun q32 => s_iload_n dX11_performs_121 rfl (s_iconst 2 dX11_performs_122 (by decide) (s_iadd dX11_performs_123 (s_istore_n dX11_performs_124 (Nat.le_of_ble_eq_true rfl) rfl (s_iload_n dX11_performs_125 rfl (s_aload_n dX11_performs_126 rfl (s_getR (v := .ref 108) dX11_performs_127 flX11_89 rfl (hi.sh rfl rfl) (hi.rf (o := 83) (k := 46) (d := 25) rfl rfl) (s_iload_n dX11_performs_130 rfl (s_iconst 1 dX11_performs_131 (by decide) (s_isub dX11_performs_132 (s_iaload dX11_performs_133 (hi.sh rfl rfl) ((((K.2.2 q4).2 q7).2.2 q15).2.2.2.1 q32).1 (s_if_le 141 dX11_performs_134 rfl (fun q44 => s_iconst 1 dX11_performs_141 (by decide) (s_isub dX11_performs_142 (s_istore_n dX11_performs_143 (Nat.le_of_ble_eq_true rfl) rfl (s_goto 58 dX11_performs_144 rfl (Vw.mask [true, true, true, false, false] ((((((K.2.2 q4).2 q7).2.2 q15).2.2.2.1 q32).2.1 q44))))))) (fun q44 => s_iconst 0 dX11_performs_137 (by decide) (s_goto 142 dX11_performs_138 rfl (s_isub dX11_performs_142 (s_istore_n dX11_performs_143 (Nat.le_of_ble_eq_true rfl) rfl (s_goto 58 dX11_performs_144 rfl (Vw.mask [true, true, true, false, false] ((((((K.2.2 q4).2 q7).2.2 q15).2.2.2.1 q32).2.2 q44)))))))))))))))))))) (fun q32 => s_aload_n dX11_performs_110 rfl (s_getR (v := .ref 104) dX11_performs_111 flX11_77 rfl (hi.sh rfl rfl) (hi.rf (o := 83) (k := 42) (d := 21) rfl rfl) (s_iload_n dX11_performs_114 rfl (s_iconst 1 dX11_performs_115 (by decide) (s_iadd dX11_performs_116 (s_iaload dX11_performs_117 (hi.sh rfl rfl) ((((K.2.2 q4).2 q7).2.2 q15).2.2.2.2 q32).1 (s_goto 124 dX11_performs_118 rfl (s_istore_n dX11_performs_124 (Nat.le_of_ble_eq_true rfl) rfl (s_iload_n dX11_performs_125 rfl (s_aload_n dX11_performs_126 rfl (s_getR (v := .ref 108) dX11_performs_127 flX11_89 rfl (hi.sh rfl rfl) (hi.rf (o := 83) (k := 46) (d := 25) rfl rfl) (s_iload_n dX11_performs_130 rfl (s_iconst 1 dX11_performs_131 (by decide) (s_isub dX11_performs_132 (s_iaload dX11_performs_133 (hi.sh rfl rfl) ((((K.2.2 q4).2 q7).2.2 q15).2.2.2.2 q32).2.1 (s_if_le 141 dX11_performs_134 rfl (fun q48 => s_iconst 1 dX11_performs_141 (by decide) (s_isub dX11_performs_142 (s_istore_n dX11_performs_143 (Nat.le_of_ble_eq_true rfl) rfl (s_goto 58 dX11_performs_144 rfl (Vw.mask [true, true, true, false, false] ((((((K.2.2 q4).2 q7).2.2 q15).2.2.2.2 q32).2.2.1 q48))))))) (fun q48 => s_iconst 0 dX11_performs_137 (by decide) (s_goto 142 dX11_performs_138 rfl (s_isub dX11_performs_142 (s_istore_n dX11_performs_143 (Nat.le_of_ble_eq_true rfl) rfl (s_goto 58 dX11_performs_144 rfl (Vw.mask [true, true, true, false, false] ((((((K.2.2 q4).2 q7).2.2 q15).2.2.2.2 q32).2.2.2 q48))))))))))))))))))))))))))))))))))))))))))))))))))))))))
theorem bX11_performs_222 {G : GX} {h : mH} {Q : mO → mH → Prop} {v1 : Int32} {v2 : Int32} (hi : Iv h) (K : Vw G jX11_performs 515 [some (.ref 83), some (.int v1), some (.int (v2 + 2)), none, none] [] h Q) : Vw G jX11_performs 222 [some (.ref 83), some (.int v1), some (.int v2), none, none] [] h Q :=
  s_iinc 2 dX11_performs_222 rfl (by decide) (Nat.le_of_ble_eq_true rfl) rfl (s_goto 515 dX11_performs_225 rfl (K))
theorem bX11_performs_288 {G : GX} {h : mH} {Q : mO → mH → Prop} {v1 : Int32} {v2 : Int32} {v3 : Int32} (hi : Iv h) (K : (¬ v3 = 8 → (vp_in (v2 + 1) 600 ∧ (vp_in (8 + (gI h 104 (Int32.toNatClampNeg (v2 + 1)))) 12 ∧ (vp_in (v2 + 2) 600 ∧ ((¬ v3 = 8 → (vp_in (8 + (gI h 104 (Int32.toNatClampNeg (v2 + 1)))) 12 ∧ Vw G jX11_performs 515 [some (.ref 83), some (.int v1), some (.int (v2 + 3)), none, none] [] (pI h 110 (Int32.toNatClampNeg (8 + (gI h 104 (Int32.toNatClampNeg (v2 + 1))))) (fX11_between ((gI h 110 (Int32.toNatClampNeg (8 + (gI h 104 (Int32.toNatClampNeg (v2 + 1)))))) + (gI h 104 (Int32.toNatClampNeg (v2 + 2)))) 90)) Q)) ∧ (v3 = 8 → (vp_in (8 + (gI h 104 (Int32.toNatClampNeg (v2 + 1)))) 12 ∧ Vw G jX11_performs 515 [some (.ref 83), some (.int v1), some (.int (v2 + 3)), none, none] [] (pI h 110 (Int32.toNatClampNeg (8 + (gI h 104 (Int32.toNatClampNeg (v2 + 1))))) (fX11_between ((gI h 110 (Int32.toNatClampNeg (8 + (gI h 104 (Int32.toNatClampNeg (v2 + 1)))))) + (gI h 104 (Int32.toNatClampNeg (v2 + 2)))) 9)) Q))))))) ∧ (v3 = 8 → (vp_in (v2 + 1) 600 ∧ (vp_in (gI h 104 (Int32.toNatClampNeg (v2 + 1))) 12 ∧ (vp_in (v2 + 2) 600 ∧ ((¬ v3 = 8 → (vp_in (gI h 104 (Int32.toNatClampNeg (v2 + 1))) 12 ∧ Vw G jX11_performs 515 [some (.ref 83), some (.int v1), some (.int (v2 + 3)), none, none] [] (pI h 110 (Int32.toNatClampNeg (gI h 104 (Int32.toNatClampNeg (v2 + 1)))) (fX11_between ((gI h 110 (Int32.toNatClampNeg (gI h 104 (Int32.toNatClampNeg (v2 + 1))))) + (gI h 104 (Int32.toNatClampNeg (v2 + 2)))) 90)) Q)) ∧ (v3 = 8 → (vp_in (gI h 104 (Int32.toNatClampNeg (v2 + 1))) 12 ∧ Vw G jX11_performs 515 [some (.ref 83), some (.int v1), some (.int (v2 + 3)), none, none] [] (pI h 110 (Int32.toNatClampNeg (gI h 104 (Int32.toNatClampNeg (v2 + 1)))) (fX11_between ((gI h 110 (Int32.toNatClampNeg (gI h 104 (Int32.toNatClampNeg (v2 + 1))))) + (gI h 104 (Int32.toNatClampNeg (v2 + 2)))) 9)) Q)))))))) : Vw G jX11_performs 288 [some (.ref 83), some (.int v1), some (.int v2), some (.int v3), none] [] h Q :=
  s_iload_n dX11_performs_288 rfl (s_bipush 8 dX11_performs_289 (by decide) (s_icmp_ne 305 dX11_performs_291 rfl (fun q2 => s_bipush 8 dX11_performs_305 (by decide) (s_aload_n dX11_performs_307 rfl (s_getR (v := .ref 104) dX11_performs_308 flX11_77 rfl (hi.sh rfl rfl) (hi.rf (o := 83) (k := 42) (d := 21) rfl rfl) (s_iload_n dX11_performs_311 rfl (s_iconst 1 dX11_performs_312 (by decide) (s_iadd dX11_performs_313 (s_iaload dX11_performs_314 (hi.sh rfl rfl) (K.1 q2).1 (s_iadd dX11_performs_315 (s_istore dX11_performs_316 (Nat.le_of_ble_eq_true rfl) rfl (s_aload_n dX11_performs_318 rfl (s_getR (v := .ref 110) dX11_performs_319 flX11_95 rfl (hi.sh rfl rfl) (hi.rf (o := 83) (k := 50) (d := 27) rfl rfl) (s_iload dX11_performs_322 rfl (s_aload_n dX11_performs_324 rfl (s_getR (v := .ref 110) dX11_performs_325 flX11_95 rfl (hi.sh rfl rfl) (hi.rf (o := 83) (k := 50) (d := 27) rfl rfl) (s_iload dX11_performs_328 rfl (s_iaload dX11_performs_330 (hi.sh rfl rfl) (K.1 q2).2.1 (s_aload_n dX11_performs_331 rfl (s_getR (v := .ref 104) dX11_performs_332 flX11_77 rfl (hi.sh rfl rfl) (hi.rf (o := 83) (k := 42) (d := 21) rfl rfl) (s_iload_n dX11_performs_335 rfl (s_iconst 2 dX11_performs_336 (by decide) (s_iadd dX11_performs_337 (s_iaload dX11_performs_338 (hi.sh rfl rfl) (K.1 q2).2.2.1 (s_iadd dX11_performs_339 (s_iload_n dX11_performs_340 rfl (s_bipush 8 dX11_performs_341 (by decide) (s_icmp_ne 351 dX11_performs_343 rfl (fun q28 => s_bipush 90 dX11_performs_351 (by decide) (s_callS (As := [.int ((gI h 110 (Int32.toNatClampNeg (8 + (gI h 104 (Int32.toNatClampNeg (v2 + 1)))))) + (gI h 104 (Int32.toNatClampNeg (v2 + 2)))), .int 90]) dX11_performs_353 rfl lsX11_375 ⟨Nat.le_of_ble_eq_true rfl, Nat.le_of_ble_eq_true rfl⟩ rfl (Nat.le_of_ble_eq_true rfl) (mX11_between   (s_iastore dX11_performs_356 (hi.sh rfl rfl) ((K.1 q2).2.2.2.1 q28).1 (s_iinc 3 dX11_performs_357 rfl (by decide) (Nat.le_of_ble_eq_true rfl) rfl (s_goto 515 dX11_performs_360 rfl (Vw.mask [true, true, true, false, false] (((K.1 q2).2.2.2.1 q28).2)))))))) (fun q28 => s_bipush 9 dX11_performs_346 (by decide) (s_goto 353 dX11_performs_348 rfl (s_callS (As := [.int ((gI h 110 (Int32.toNatClampNeg (8 + (gI h 104 (Int32.toNatClampNeg (v2 + 1)))))) + (gI h 104 (Int32.toNatClampNeg (v2 + 2)))), .int 9]) dX11_performs_353 rfl lsX11_375 ⟨Nat.le_of_ble_eq_true rfl, Nat.le_of_ble_eq_true rfl⟩ rfl (Nat.le_of_ble_eq_true rfl) (mX11_between   (s_iastore dX11_performs_356 (hi.sh rfl rfl) ((K.1 q2).2.2.2.2 q28).1 (s_iinc 3 dX11_performs_357 rfl (by decide) (Nat.le_of_ble_eq_true rfl) rfl (s_goto 515 dX11_performs_360 rfl (Vw.mask [true, true, true, false, false] (((K.1 q2).2.2.2.2 q28).2))))))))))))))))))))))))))))))))))) (fun q2 => s_aload_n dX11_performs_294 rfl (s_getR (v := .ref 104) dX11_performs_295 flX11_77 rfl (hi.sh rfl rfl) (hi.rf (o := 83) (k := 42) (d := 21) rfl rfl) (s_iload_n dX11_performs_298 rfl (s_iconst 1 dX11_performs_299 (by decide) (s_iadd dX11_performs_300 (s_iaload dX11_performs_301 (hi.sh rfl rfl) (K.2 q2).1 (s_goto 316 dX11_performs_302 rfl (s_istore dX11_performs_316 (Nat.le_of_ble_eq_true rfl) rfl (s_aload_n dX11_performs_318 rfl (s_getR (v := .ref 110) dX11_performs_319 flX11_95 rfl (hi.sh rfl rfl) (hi.rf (o := 83) (k := 50) (d := 27) rfl rfl) (s_iload dX11_performs_322 rfl (s_aload_n dX11_performs_324 rfl (s_getR (v := .ref 110) dX11_performs_325 flX11_95 rfl (hi.sh rfl rfl) (hi.rf (o := 83) (k := 50) (d := 27) rfl rfl) (s_iload dX11_performs_328 rfl (s_iaload dX11_performs_330 (hi.sh rfl rfl) (K.2 q2).2.1 (s_aload_n dX11_performs_331 rfl (s_getR (v := .ref 104) dX11_performs_332 flX11_77 rfl (hi.sh rfl rfl) (hi.rf (o := 83) (k := 42) (d := 21) rfl rfl) (s_iload_n dX11_performs_335 rfl (s_iconst 2 dX11_performs_336 (by decide) (s_iadd dX11_performs_337 (s_iaload dX11_performs_338 (hi.sh rfl rfl) (K.2 q2).2.2.1 (s_iadd dX11_performs_339 (s_iload_n dX11_performs_340 rfl (s_bipush 8 dX11_performs_341 (by decide) (s_icmp_ne 351 dX11_performs_343 rfl (fun q27 => s_bipush 90 dX11_performs_351 (by decide) (s_callS (As := [.int ((gI h 110 (Int32.toNatClampNeg (gI h 104 (Int32.toNatClampNeg (v2 + 1))))) + (gI h 104 (Int32.toNatClampNeg (v2 + 2)))), .int 90]) dX11_performs_353 rfl lsX11_375 ⟨Nat.le_of_ble_eq_true rfl, Nat.le_of_ble_eq_true rfl⟩ rfl (Nat.le_of_ble_eq_true rfl) (mX11_between   (s_iastore dX11_performs_356 (hi.sh rfl rfl) ((K.2 q2).2.2.2.1 q27).1 (s_iinc 3 dX11_performs_357 rfl (by decide) (Nat.le_of_ble_eq_true rfl) rfl (s_goto 515 dX11_performs_360 rfl (Vw.mask [true, true, true, false, false] (((K.2 q2).2.2.2.1 q27).2)))))))) (fun q27 => s_bipush 9 dX11_performs_346 (by decide) (s_goto 353 dX11_performs_348 rfl (s_callS (As := [.int ((gI h 110 (Int32.toNatClampNeg (gI h 104 (Int32.toNatClampNeg (v2 + 1))))) + (gI h 104 (Int32.toNatClampNeg (v2 + 2)))), .int 9]) dX11_performs_353 rfl lsX11_375 ⟨Nat.le_of_ble_eq_true rfl, Nat.le_of_ble_eq_true rfl⟩ rfl (Nat.le_of_ble_eq_true rfl) (mX11_between   (s_iastore dX11_performs_356 (hi.sh rfl rfl) ((K.2 q2).2.2.2.2 q27).1 (s_iinc 3 dX11_performs_357 rfl (by decide) (Nat.le_of_ble_eq_true rfl) rfl (s_goto 515 dX11_performs_360 rfl (Vw.mask [true, true, true, false, false] (((K.2 q2).2.2.2.2 q27).2))))))))))))))))))))))))))))))))))))
theorem bX11_performs_437 {G : GX} {h : mH} {Q : mO → mH → Prop} {v1 : Int32} {v2 : Int32} {v4 : Int32} (hi : Iv h) (K : (v4 = 0 → (vp_in (v2 + 2) 600 ∧ Vw G jX11_performs 515 [some (.ref 83), some (.int v1), some (.int (gI h 104 (Int32.toNatClampNeg (v2 + 2)))), none, none] [] h Q)) ∧ (¬ v4 = 0 → Vw G jX11_performs 515 [some (.ref 83), some (.int v1), some (.int (v2 + 3)), none, none] [] h Q)) : Vw G jX11_performs 437 [some (.ref 83), some (.int v1), some (.int v2), none, some (.int v4)] [] h Q :=
  s_iload dX11_performs_437 rfl (s_if_eq 448 dX11_performs_439 rfl (fun q1 => s_aload_n dX11_performs_448 rfl (s_getR (v := .ref 104) dX11_performs_449 flX11_77 rfl (hi.sh rfl rfl) (hi.rf (o := 83) (k := 42) (d := 21) rfl rfl) (s_iload_n dX11_performs_452 rfl (s_iconst 2 dX11_performs_453 (by decide) (s_iadd dX11_performs_454 (s_iaload dX11_performs_455 (hi.sh rfl rfl) (K.1 q1).1 (s_istore_n dX11_performs_456 (Nat.le_of_ble_eq_true rfl) rfl (s_goto 515 dX11_performs_457 rfl (Vw.mask [true, true, true, false, false] ((K.1 q1).2)))))))))) (fun q1 => s_iload_n dX11_performs_442 rfl (s_iconst 3 dX11_performs_443 (by decide) (s_iadd dX11_performs_444 (s_goto 456 dX11_performs_445 rfl (s_istore_n dX11_performs_456 (Nat.le_of_ble_eq_true rfl) rfl (s_goto 515 dX11_performs_457 rfl (Vw.mask [true, true, true, false, false] ((K.2 q1))))))))))
theorem bX11_performs_480 {G : GX} {h : mH} {Q : mO → mH → Prop} {v1 : Int32} {v2 : Int32} {vs0 : Int32} (hi : Iv h) (K : vp_in (v2 + 1) 600 ∧ ((¬ (gI h 104 (Int32.toNatClampNeg (v2 + 1))) = 1 → ((vs0 = 0 → (vp_in (v2 + 4) 600 ∧ Vw G jX11_performs 515 [some (.ref 83), some (.int v1), some (.int (gI h 104 (Int32.toNatClampNeg (v2 + 4)))), none, none] [] h Q)) ∧ (¬ vs0 = 0 → Vw G jX11_performs 515 [some (.ref 83), some (.int v1), some (.int (v2 + 5)), none, none] [] h Q))) ∧ ((gI h 104 (Int32.toNatClampNeg (v2 + 1))) = 1 → ((vs0 = 1 → (vp_in (v2 + 4) 600 ∧ Vw G jX11_performs 515 [some (.ref 83), some (.int v1), some (.int (gI h 104 (Int32.toNatClampNeg (v2 + 4)))), none, none] [] h Q)) ∧ (¬ vs0 = 1 → Vw G jX11_performs 515 [some (.ref 83), some (.int v1), some (.int (v2 + 5)), none, none] [] h Q))))) : Vw G jX11_performs 480 [some (.ref 83), some (.int v1), some (.int v2), none, none] [.int vs0] h Q :=
  s_aload_n dX11_performs_480 rfl (s_getR (v := .ref 104) dX11_performs_481 flX11_77 rfl (hi.sh rfl rfl) (hi.rf (o := 83) (k := 42) (d := 21) rfl rfl) (s_iload_n dX11_performs_484 rfl (s_iconst 1 dX11_performs_485 (by decide) (s_iadd dX11_performs_486 (s_iaload dX11_performs_487 (hi.sh rfl rfl) K.1 (s_iconst 1 dX11_performs_488 (by decide) (s_icmp_ne 496 dX11_performs_489 rfl (fun q7 => s_iconst 0 dX11_performs_496 (by decide) (s_icmp_eq 506 dX11_performs_497 rfl (fun q9 => s_aload_n dX11_performs_506 rfl (s_getR (v := .ref 104) dX11_performs_507 flX11_77 rfl (hi.sh rfl rfl) (hi.rf (o := 83) (k := 42) (d := 21) rfl rfl) (s_iload_n dX11_performs_510 rfl (s_iconst 4 dX11_performs_511 (by decide) (s_iadd dX11_performs_512 (s_iaload dX11_performs_513 (hi.sh rfl rfl) ((K.2.1 q7).1 q9).1 (s_istore_n dX11_performs_514 (Nat.le_of_ble_eq_true rfl) rfl (((K.2.1 q7).1 q9).2)))))))) (fun q9 => s_iload_n dX11_performs_500 rfl (s_iconst 5 dX11_performs_501 (by decide) (s_iadd dX11_performs_502 (s_goto 514 dX11_performs_503 rfl (s_istore_n dX11_performs_514 (Nat.le_of_ble_eq_true rfl) rfl (((K.2.1 q7).2 q9))))))))) (fun q7 => s_iconst 1 dX11_performs_492 (by decide) (s_goto 497 dX11_performs_493 rfl (s_icmp_eq 506 dX11_performs_497 rfl (fun q10 => s_aload_n dX11_performs_506 rfl (s_getR (v := .ref 104) dX11_performs_507 flX11_77 rfl (hi.sh rfl rfl) (hi.rf (o := 83) (k := 42) (d := 21) rfl rfl) (s_iload_n dX11_performs_510 rfl (s_iconst 4 dX11_performs_511 (by decide) (s_iadd dX11_performs_512 (s_iaload dX11_performs_513 (hi.sh rfl rfl) ((K.2.2 q7).1 q10).1 (s_istore_n dX11_performs_514 (Nat.le_of_ble_eq_true rfl) rfl (((K.2.2 q7).1 q10).2)))))))) (fun q10 => s_iload_n dX11_performs_500 rfl (s_iconst 5 dX11_performs_501 (by decide) (s_iadd dX11_performs_502 (s_goto 514 dX11_performs_503 rfl (s_istore_n dX11_performs_514 (Nat.le_of_ble_eq_true rfl) rfl (((K.2.2 q7).2 q10)))))))))))))))))
theorem bX11_performs_515 {G : GX} {h : mH} {Q : mO → mH → Prop} {v1 : Int32} {v2 : Int32} (hi : Iv h) (K : Vw G jX11_performs 58 [some (.ref 83), some (.int v1), some (.int v2), none, none] [] h Q) : Vw G jX11_performs 515 [some (.ref 83), some (.int v1), some (.int v2), none, none] [] h Q :=
  s_goto 58 dX11_performs_515 rfl (K)
theorem eX11_performs {G : GX} {h : mH} {Q : mO → mH → Prop} (hi : Iv h) (K : Vw G jX11_performs 2 [some (.ref 83), some (.int 0), none, none, none] [] h Q) : WM G jX11_performs [.ref 83] h Q :=
  WM.body (ls := [some (.ref 83), none, none, none, none]) rfl (by decide +kernel) rfl (Nat.le_of_ble_eq_true rfl) rfl ((bX11_performs_0 hi  K))
theorem dX11_performed_0 : decode cX11_performed 0 = .ok (.aload_n 0, 1) := by decide +kernel
theorem dX11_performed_1 : decode cX11_performed 1 = .ok (.iconst 0, 1) := by decide +kernel
theorem dX11_performed_2 : decode cX11_performed 2 = .ok (.putfield 113, 3) := by decide +kernel
theorem dX11_performed_5 : decode cX11_performed 5 = .ok (.aload_n 0, 1) := by decide +kernel
theorem dX11_performed_6 : decode cX11_performed 6 = .ok (.iload_n 1, 1) := by decide +kernel
theorem dX11_performed_7 : decode cX11_performed 7 = .ok (.iconst 0, 1) := by decide +kernel
theorem dX11_performed_8 : decode cX11_performed 8 = .ok (.iconst 3, 1) := by decide +kernel
theorem dX11_performed_9 : decode cX11_performed 9 = .ok (.invokestatic 238, 3) := by decide +kernel
theorem dX11_performed_12 : decode cX11_performed 12 = .ok (.iconst 1, 1) := by decide +kernel
theorem dX11_performed_13 : decode cX11_performed 13 = .ok (.invokevirtual 209, 3) := by decide +kernel
theorem dX11_performed_16 : decode cX11_performed 16 = .ok (.ifCond .ne 5, 3) := by decide +kernel
theorem dX11_performed_19 : decode cX11_performed 19 = .ok (.iconst 0, 1) := by decide +kernel
theorem dX11_performed_20 : decode cX11_performed 20 = .ok (.ireturn, 1) := by decide +kernel
theorem dX11_performed_21 : decode cX11_performed 21 = .ok (.aload_n 0, 1) := by decide +kernel
theorem dX11_performed_22 : decode cX11_performed 22 = .ok (.invokevirtual 381, 3) := by decide +kernel
theorem dX11_performed_25 : decode cX11_performed 25 = .ok (.aload_n 0, 1) := by decide +kernel
theorem dX11_performed_26 : decode cX11_performed 26 = .ok (.getfield 366, 3) := by decide +kernel
theorem dX11_performed_29 : decode cX11_performed 29 = .ok (.ifCond .eq 6, 3) := by decide +kernel
theorem dX11_performed_32 : decode cX11_performed 32 = .ok (.bipush (-2), 2) := by decide +kernel
theorem dX11_performed_34 : decode cX11_performed 34 = .ok (.ireturn, 1) := by decide +kernel
theorem dX11_performed_35 : decode cX11_performed 35 = .ok (.iconst 0, 1) := by decide +kernel
theorem dX11_performed_36 : decode cX11_performed 36 = .ok (.istore_n 2, 1) := by decide +kernel
theorem dX11_performed_37 : decode cX11_performed 37 = .ok (.iconst 0, 1) := by decide +kernel
theorem dX11_performed_38 : decode cX11_performed 38 = .ok (.istore_n 3, 1) := by decide +kernel
theorem dX11_performed_39 : decode cX11_performed 39 = .ok (.iload_n 3, 1) := by decide +kernel
theorem dX11_performed_40 : decode cX11_performed 40 = .ok (.sipush 729, 3) := by decide +kernel
theorem dX11_performed_43 : decode cX11_performed 43 = .ok (.if_icmp .ge 26, 3) := by decide +kernel
theorem dX11_performed_46 : decode cX11_performed 46 = .ok (.iload_n 2, 1) := by decide +kernel
theorem dX11_performed_47 : decode cX11_performed 47 = .ok (.aload_n 0, 1) := by decide +kernel
theorem dX11_performed_48 : decode cX11_performed 48 = .ok (.getfield 92, 3) := by decide +kernel
theorem dX11_performed_51 : decode cX11_performed 51 = .ok (.iload_n 3, 1) := by decide +kernel
theorem dX11_performed_52 : decode cX11_performed 52 = .ok (.iaload, 1) := by decide +kernel
theorem dX11_performed_53 : decode cX11_performed 53 = .ok (.ifCond .le 7, 3) := by decide +kernel
theorem dX11_performed_56 : decode cX11_performed 56 = .ok (.iconst 1, 1) := by decide +kernel
theorem dX11_performed_57 : decode cX11_performed 57 = .ok (.goto 4, 3) := by decide +kernel
theorem dX11_performed_60 : decode cX11_performed 60 = .ok (.iconst 0, 1) := by decide +kernel
theorem dX11_performed_61 : decode cX11_performed 61 = .ok (.iadd, 1) := by decide +kernel
theorem dX11_performed_62 : decode cX11_performed 62 = .ok (.istore_n 2, 1) := by decide +kernel
theorem dX11_performed_63 : decode cX11_performed 63 = .ok (.iinc 3 1, 3) := by decide +kernel
theorem dX11_performed_66 : decode cX11_performed 66 = .ok (.goto (-27), 3) := by decide +kernel
theorem dX11_performed_69 : decode cX11_performed 69 = .ok (.iload_n 1, 1) := by decide +kernel
theorem dX11_performed_70 : decode cX11_performed 70 = .ok (.ifCond .ne 10, 3) := by decide +kernel
theorem dX11_performed_73 : decode cX11_performed 73 = .ok (.aload_n 0, 1) := by decide +kernel
theorem dX11_performed_74 : decode cX11_performed 74 = .ok (.getfield 369, 3) := by decide +kernel
theorem dX11_performed_77 : decode cX11_performed 77 = .ok (.goto 28, 3) := by decide +kernel
theorem dX11_performed_80 : decode cX11_performed 80 = .ok (.iload_n 1, 1) := by decide +kernel
theorem dX11_performed_81 : decode cX11_performed 81 = .ok (.iconst 1, 1) := by decide +kernel
theorem dX11_performed_82 : decode cX11_performed 82 = .ok (.if_icmp .ne 7, 3) := by decide +kernel
theorem dX11_performed_85 : decode cX11_performed 85 = .ok (.iload_n 2, 1) := by decide +kernel
theorem dX11_performed_86 : decode cX11_performed 86 = .ok (.goto 19, 3) := by decide +kernel
theorem dX11_performed_89 : decode cX11_performed 89 = .ok (.iload_n 1, 1) := by decide +kernel
theorem dX11_performed_90 : decode cX11_performed 90 = .ok (.iconst 2, 1) := by decide +kernel
theorem dX11_performed_91 : decode cX11_performed 91 = .ok (.if_icmp .ne 10, 3) := by decide +kernel
theorem dX11_performed_94 : decode cX11_performed 94 = .ok (.aload_n 0, 1) := by decide +kernel
theorem dX11_performed_95 : decode cX11_performed 95 = .ok (.getfield 356, 3) := by decide +kernel
theorem dX11_performed_98 : decode cX11_performed 98 = .ok (.goto 7, 3) := by decide +kernel
theorem dX11_performed_101 : decode cX11_performed 101 = .ok (.aload_n 0, 1) := by decide +kernel
theorem dX11_performed_102 : decode cX11_performed 102 = .ok (.invokevirtual 362, 3) := by decide +kernel
theorem dX11_performed_105 : decode cX11_performed 105 = .ok (.ireturn, 1) := by decide +kernel
theorem bX11_performed_0 {G : GX} {h : mH} {Q : mO → mH → Prop} {v1 : Int32} (hi : Iv h) (K : WM G jX11_right [.ref 83, .int (fX11_within v1 0 3), .int 1] (pI h 83 0 0) (Aft G jX11_performed 13 [some (.ref 83), some (.int v1), none, none] [] Q)) : Vw G jX11_performed 0 [some (.ref 83), some (.int v1), none, none] [] h Q :=
  s_aload_n dX11_performed_0 rfl (s_iconst 0 dX11_performed_1 (by decide) (s_putI dX11_performed_2 flX11_113 ff10_0 rfl (hi.sh rfl rfl) (s_aload_n dX11_performed_5 rfl (s_iload_n dX11_performed_6 rfl (s_iconst 0 dX11_performed_7 (by decide) (s_iconst 3 dX11_performed_8 (by decide) (s_callS (As := [.int v1, .int 0, .int 3]) dX11_performed_9 rfl lsX11_238 ⟨Nat.le_of_ble_eq_true rfl, Nat.le_of_ble_eq_true rfl⟩ rfl (Nat.le_of_ble_eq_true rfl) (mX11_within   (s_iconst 1 dX11_performed_12 (by decide) (s_callV (As := [.int (fX11_within v1 0 3), .int 1]) dX11_performed_13 rfl lvX11_209 ⟨Nat.le_of_ble_eq_true rfl, Nat.le_of_ble_eq_true rfl⟩ (hi.sh rfl rfl) ⟨_, _, by decide, rfl⟩ rfl (Nat.le_of_ble_eq_true rfl) (K)))))))))))
theorem bX11_performed_16 {G : GX} {h : mH} {Q : mO → mH → Prop} {v1 : Int32} {vs0 : Int32} (hi : Iv h) (K : (¬ vs0 = 0 → WM G jX11_performs [.ref 83] h (Aft G jX11_performed 22 [some (.ref 83), some (.int v1), none, none] [] Q)) ∧ (vs0 = 0 → Q (.inl (some (.int 0))) h)) : Vw G jX11_performed 16 [some (.ref 83), some (.int v1), none, none] [.int vs0] h Q :=
  s_if_ne 21 dX11_performed_16 rfl (fun q0 => s_aload_n dX11_performed_21 rfl (s_callV (As := []) dX11_performed_22 rfl lvX11_381 ⟨Nat.le_of_ble_eq_true rfl, Nat.le_of_ble_eq_true rfl⟩ (hi.sh rfl rfl) ⟨_, _, by decide, rfl⟩ rfl (Nat.le_of_ble_eq_true rfl) ((K.1 q0)))) (fun q0 => s_iconst 0 dX11_performed_19 (by decide) (s_ireturn dX11_performed_20 rfl (K.2 q0)))
theorem bX11_performed_25 {G : GX} {h : mH} {Q : mO → mH → Prop} {v1 : Int32} (hi : Iv h) (K : ((gI h 83 54) = 0 → Vw G jX11_performed 39 [some (.ref 83), some (.int v1), some (.int 0), some (.int 0)] [] h Q) ∧ (¬ (gI h 83 54) = 0 → Q (.inl (some (.int (-2)))) h)) : Vw G jX11_performed 25 [some (.ref 83), some (.int v1), none, none] [] h Q :=
  s_aload_n dX11_performed_25 rfl (s_getI dX11_performed_26 flX11_366 (Or.inr rfl) (hi.sh rfl rfl) (s_if_eq 35 dX11_performed_29 rfl (fun q2 => s_iconst 0 dX11_performed_35 (by decide) (s_istore_n dX11_performed_36 (Nat.le_of_ble_eq_true rfl) rfl (s_iconst 0 dX11_performed_37 (by decide) (s_istore_n dX11_performed_38 (Nat.le_of_ble_eq_true rfl) rfl ((K.1 q2)))))) (fun q2 => s_bipush (-2) dX11_performed_32 (by decide) (s_ireturn dX11_performed_34 rfl (K.2 q2)))))
theorem bX11_performed_39 {G : GX} {h : mH} {Q : mO → mH → Prop} {v1 : Int32} {v2 : Int32} {v3 : Int32} (hi : Iv h) (K : (729 ≤ v3 → ((¬ v1 = 0 → ((¬ v1 = 1 → ((¬ v1 = 2 → WM G jX11_cellGoing [.ref 83] h (Aft G jX11_performed 102 [none, none, none, none] [] Q)) ∧ (v1 = 2 → Vw G jX11_performed 105 [none, none, none, none] [.int (gI h 83 52)] h Q))) ∧ (v1 = 1 → Vw G jX11_performed 105 [none, none, none, none] [.int v2] h Q))) ∧ (v1 = 0 → Vw G jX11_performed 105 [none, none, none, none] [.int (gI h 83 51)] h Q))) ∧ (¬ 729 ≤ v3 → (vp_in v3 729 ∧ (((gI h 109 (Int32.toNatClampNeg v3)) ≤ 0 → Vw G jX11_performed 39 [some (.ref 83), some (.int v1), some (.int (v2 + 0)), some (.int (v3 + 1))] [] h Q) ∧ (¬ (gI h 109 (Int32.toNatClampNeg v3)) ≤ 0 → Vw G jX11_performed 39 [some (.ref 83), some (.int v1), some (.int (v2 + 1)), some (.int (v3 + 1))] [] h Q))))) : Vw G jX11_performed 39 [some (.ref 83), some (.int v1), some (.int v2), some (.int v3)] [] h Q :=
  s_iload_n dX11_performed_39 rfl (s_sipush 729 dX11_performed_40 (by decide) (s_icmp_ge 69 dX11_performed_43 rfl (fun q2 => s_iload_n dX11_performed_69 rfl (s_if_ne 80 dX11_performed_70 rfl (fun q4 => s_iload_n dX11_performed_80 rfl (s_iconst 1 dX11_performed_81 (by decide) (s_icmp_ne 89 dX11_performed_82 rfl (fun q7 => s_iload_n dX11_performed_89 rfl (s_iconst 2 dX11_performed_90 (by decide) (s_icmp_ne 101 dX11_performed_91 rfl (fun q10 => s_aload_n dX11_performed_101 rfl (Vw.mask [false, false, false, false] (s_callV (As := []) dX11_performed_102 rfl lvX11_362 ⟨Nat.le_of_ble_eq_true rfl, Nat.le_of_ble_eq_true rfl⟩ (hi.sh rfl rfl) ⟨_, _, by decide, rfl⟩ rfl (Nat.le_of_ble_eq_true rfl) (((((K.1 q2).1 q4).1 q7).1 q10))))) (fun q10 => s_aload_n dX11_performed_94 rfl (s_getI dX11_performed_95 flX11_356 (Or.inl rfl) (hi.sh rfl rfl) (s_goto 105 dX11_performed_98 rfl (Vw.mask [false, false, false, false] (((((K.1 q2).1 q4).1 q7).2 q10))))))))) (fun q7 => s_iload_n dX11_performed_85 rfl (s_goto 105 dX11_performed_86 rfl (Vw.mask [false, false, false, false] ((((K.1 q2).1 q4).2 q7)))))))) (fun q4 => s_aload_n dX11_performed_73 rfl (s_getI dX11_performed_74 flX11_369 (Or.inl rfl) (hi.sh rfl rfl) (s_goto 105 dX11_performed_77 rfl (Vw.mask [false, false, false, false] (((K.1 q2).2 q4)))))))) (fun q2 => s_iload_n dX11_performed_46 rfl (s_aload_n dX11_performed_47 rfl (s_getR (v := .ref 109) dX11_performed_48 flX11_92 rfl (hi.sh rfl rfl) (hi.rf (o := 83) (k := 49) (d := 26) rfl rfl) (s_iload_n dX11_performed_51 rfl (s_iaload dX11_performed_52 (hi.sh rfl rfl) (K.2 q2).1 (s_if_le 60 dX11_performed_53 rfl (fun q8 => s_iconst 0 dX11_performed_60 (by decide) (s_iadd dX11_performed_61 (s_istore_n dX11_performed_62 (Nat.le_of_ble_eq_true rfl) rfl (s_iinc 1 dX11_performed_63 rfl (by decide) (Nat.le_of_ble_eq_true rfl) rfl (s_goto 39 dX11_performed_66 rfl (((K.2 q2).2.1 q8))))))) (fun q8 => s_iconst 1 dX11_performed_56 (by decide) (s_goto 61 dX11_performed_57 rfl (s_iadd dX11_performed_61 (s_istore_n dX11_performed_62 (Nat.le_of_ble_eq_true rfl) rfl (s_iinc 1 dX11_performed_63 rfl (by decide) (Nat.le_of_ble_eq_true rfl) rfl (s_goto 39 dX11_performed_66 rfl (((K.2 q2).2.2 q8))))))))))))))))
theorem bX11_performed_105 {G : GX} {h : mH} {Q : mO → mH → Prop} {vs0 : Int32} (hi : Iv h) (K : Q (.inl (some (.int vs0))) h) : Vw G jX11_performed 105 [none, none, none, none] [.int vs0] h Q :=
  s_ireturn dX11_performed_105 rfl K
theorem eX11_performed {G : GX} {h : mH} {Q : mO → mH → Prop} {v1 : Int32} (hi : Iv h) (K : WM G jX11_right [.ref 83, .int (fX11_within v1 0 3), .int 1] (pI h 83 0 0) (Aft G jX11_performed 13 [some (.ref 83), some (.int v1), none, none] [] Q)) : WM G jX11_performed [.ref 83, .int v1] h Q :=
  WM.body (ls := [some (.ref 83), some (.int v1), none, none]) rfl (by decide +kernel) rfl (Nat.le_of_ble_eq_true rfl) rfl ((bX11_performed_0 hi  K))
theorem dX11_marks_0 : decode cX11_marks 0 = .ok (.aload_n 0, 1) := by decide +kernel
theorem dX11_marks_1 : decode cX11_marks 1 = .ok (.iconst 0, 1) := by decide +kernel
theorem dX11_marks_2 : decode cX11_marks 2 = .ok (.putfield 113, 3) := by decide +kernel
theorem dX11_marks_5 : decode cX11_marks 5 = .ok (.aload_n 0, 1) := by decide +kernel
theorem dX11_marks_6 : decode cX11_marks 6 = .ok (.iload_n 1, 1) := by decide +kernel
theorem dX11_marks_7 : decode cX11_marks 7 = .ok (.iconst 0, 1) := by decide +kernel
theorem dX11_marks_8 : decode cX11_marks 8 = .ok (.sipush 728, 3) := by decide +kernel
theorem dX11_marks_11 : decode cX11_marks 11 = .ok (.invokestatic 238, 3) := by decide +kernel
theorem dX11_marks_14 : decode cX11_marks 14 = .ok (.iconst 1, 1) := by decide +kernel
theorem dX11_marks_15 : decode cX11_marks 15 = .ok (.invokevirtual 209, 3) := by decide +kernel
theorem dX11_marks_18 : decode cX11_marks 18 = .ok (.ifCond .ne 5, 3) := by decide +kernel
theorem dX11_marks_21 : decode cX11_marks 21 = .ok (.iconst 0, 1) := by decide +kernel
theorem dX11_marks_22 : decode cX11_marks 22 = .ok (.ireturn, 1) := by decide +kernel
theorem dX11_marks_23 : decode cX11_marks 23 = .ok (.aload_n 0, 1) := by decide +kernel
theorem dX11_marks_24 : decode cX11_marks 24 = .ok (.invokevirtual 381, 3) := by decide +kernel
theorem dX11_marks_27 : decode cX11_marks 27 = .ok (.aload_n 0, 1) := by decide +kernel
theorem dX11_marks_28 : decode cX11_marks 28 = .ok (.getfield 366, 3) := by decide +kernel
theorem dX11_marks_31 : decode cX11_marks 31 = .ok (.ifCond .eq 8, 3) := by decide +kernel
theorem dX11_marks_34 : decode cX11_marks 34 = .ok (.bipush (-2), 2) := by decide +kernel
theorem dX11_marks_36 : decode cX11_marks 36 = .ok (.goto 9, 3) := by decide +kernel
theorem dX11_marks_39 : decode cX11_marks 39 = .ok (.aload_n 0, 1) := by decide +kernel
theorem dX11_marks_40 : decode cX11_marks 40 = .ok (.getfield 92, 3) := by decide +kernel
theorem dX11_marks_43 : decode cX11_marks 43 = .ok (.iload_n 1, 1) := by decide +kernel
theorem dX11_marks_44 : decode cX11_marks 44 = .ok (.iaload, 1) := by decide +kernel
theorem dX11_marks_45 : decode cX11_marks 45 = .ok (.ireturn, 1) := by decide +kernel
theorem bX11_marks_0 {G : GX} {h : mH} {Q : mO → mH → Prop} {v1 : Int32} (hi : Iv h) (K : WM G jX11_right [.ref 83, .int (fX11_within v1 0 728), .int 1] (pI h 83 0 0) (Aft G jX11_marks 15 [some (.ref 83), some (.int v1)] [] Q)) : Vw G jX11_marks 0 [some (.ref 83), some (.int v1)] [] h Q :=
  s_aload_n dX11_marks_0 rfl (s_iconst 0 dX11_marks_1 (by decide) (s_putI dX11_marks_2 flX11_113 ff10_0 rfl (hi.sh rfl rfl) (s_aload_n dX11_marks_5 rfl (s_iload_n dX11_marks_6 rfl (s_iconst 0 dX11_marks_7 (by decide) (s_sipush 728 dX11_marks_8 (by decide) (s_callS (As := [.int v1, .int 0, .int 728]) dX11_marks_11 rfl lsX11_238 ⟨Nat.le_of_ble_eq_true rfl, Nat.le_of_ble_eq_true rfl⟩ rfl (Nat.le_of_ble_eq_true rfl) (mX11_within   (s_iconst 1 dX11_marks_14 (by decide) (s_callV (As := [.int (fX11_within v1 0 728), .int 1]) dX11_marks_15 rfl lvX11_209 ⟨Nat.le_of_ble_eq_true rfl, Nat.le_of_ble_eq_true rfl⟩ (hi.sh rfl rfl) ⟨_, _, by decide, rfl⟩ rfl (Nat.le_of_ble_eq_true rfl) (K)))))))))))
theorem bX11_marks_18 {G : GX} {h : mH} {Q : mO → mH → Prop} {v1 : Int32} {vs0 : Int32} (hi : Iv h) (K : (¬ vs0 = 0 → WM G jX11_performs [.ref 83] h (Aft G jX11_marks 24 [some (.ref 83), some (.int v1)] [] Q)) ∧ (vs0 = 0 → Q (.inl (some (.int 0))) h)) : Vw G jX11_marks 18 [some (.ref 83), some (.int v1)] [.int vs0] h Q :=
  s_if_ne 23 dX11_marks_18 rfl (fun q0 => s_aload_n dX11_marks_23 rfl (s_callV (As := []) dX11_marks_24 rfl lvX11_381 ⟨Nat.le_of_ble_eq_true rfl, Nat.le_of_ble_eq_true rfl⟩ (hi.sh rfl rfl) ⟨_, _, by decide, rfl⟩ rfl (Nat.le_of_ble_eq_true rfl) ((K.1 q0)))) (fun q0 => s_iconst 0 dX11_marks_21 (by decide) (s_ireturn dX11_marks_22 rfl (K.2 q0)))
theorem bX11_marks_27 {G : GX} {h : mH} {Q : mO → mH → Prop} {v1 : Int32} (hi : Iv h) (K : ((gI h 83 54) = 0 → (vp_in v1 729 ∧ Q (.inl (some (.int (gI h 109 (Int32.toNatClampNeg v1))))) h)) ∧ (¬ (gI h 83 54) = 0 → Q (.inl (some (.int (-2)))) h)) : Vw G jX11_marks 27 [some (.ref 83), some (.int v1)] [] h Q :=
  s_aload_n dX11_marks_27 rfl (s_getI dX11_marks_28 flX11_366 (Or.inr rfl) (hi.sh rfl rfl) (s_if_eq 39 dX11_marks_31 rfl (fun q2 => s_aload_n dX11_marks_39 rfl (s_getR (v := .ref 109) dX11_marks_40 flX11_92 rfl (hi.sh rfl rfl) (hi.rf (o := 83) (k := 49) (d := 26) rfl rfl) (s_iload_n dX11_marks_43 rfl (s_iaload dX11_marks_44 (hi.sh rfl rfl) (K.1 q2).1 (s_ireturn dX11_marks_45 rfl (K.1 q2).2))))) (fun q2 => s_bipush (-2) dX11_marks_34 (by decide) (s_goto 45 dX11_marks_36 rfl (s_ireturn dX11_marks_45 rfl (K.2 q2))))))
theorem eX11_marks {G : GX} {h : mH} {Q : mO → mH → Prop} {v1 : Int32} (hi : Iv h) (K : WM G jX11_right [.ref 83, .int (fX11_within v1 0 728), .int 1] (pI h 83 0 0) (Aft G jX11_marks 15 [some (.ref 83), some (.int v1)] [] Q)) : WM G jX11_marks [.ref 83, .int v1] h Q :=
  WM.body (ls := [some (.ref 83), some (.int v1)]) rfl (by decide +kernel) rfl (Nat.le_of_ble_eq_true rfl) rfl ((bX11_marks_0 hi  K))
theorem dX11_image_0 : decode cX11_image 0 = .ok (.aload_n 0, 1) := by decide +kernel
theorem dX11_image_1 : decode cX11_image 1 = .ok (.iconst 0, 1) := by decide +kernel
theorem dX11_image_2 : decode cX11_image 2 = .ok (.putfield 113, 3) := by decide +kernel
theorem dX11_image_5 : decode cX11_image 5 = .ok (.aload_n 0, 1) := by decide +kernel
theorem dX11_image_6 : decode cX11_image 6 = .ok (.iconst 1, 1) := by decide +kernel
theorem dX11_image_7 : decode cX11_image 7 = .ok (.putfield 235, 3) := by decide +kernel
theorem dX11_image_10 : decode cX11_image 10 = .ok (.aload_n 0, 1) := by decide +kernel
theorem dX11_image_11 : decode cX11_image 11 = .ok (.getfield 98, 3) := by decide +kernel
theorem dX11_image_14 : decode cX11_image 14 = .ok (.iconst 0, 1) := by decide +kernel
theorem dX11_image_15 : decode cX11_image 15 = .ok (.aload_n 0, 1) := by decide +kernel
theorem dX11_image_16 : decode cX11_image 16 = .ok (.getfield 226, 3) := by decide +kernel
theorem dX11_image_19 : decode cX11_image 19 = .ok (.iastore, 1) := by decide +kernel
theorem dX11_image_20 : decode cX11_image 20 = .ok (.aload_n 0, 1) := by decide +kernel
theorem dX11_image_21 : decode cX11_image 21 = .ok (.getfield 98, 3) := by decide +kernel
theorem dX11_image_24 : decode cX11_image 24 = .ok (.iconst 1, 1) := by decide +kernel
theorem dX11_image_25 : decode cX11_image 25 = .ok (.aload_n 0, 1) := by decide +kernel
theorem dX11_image_26 : decode cX11_image 26 = .ok (.getfield 229, 3) := by decide +kernel
theorem dX11_image_29 : decode cX11_image 29 = .ok (.iastore, 1) := by decide +kernel
theorem dX11_image_30 : decode cX11_image 30 = .ok (.aload_n 0, 1) := by decide +kernel
theorem dX11_image_31 : decode cX11_image 31 = .ok (.getfield 98, 3) := by decide +kernel
theorem dX11_image_34 : decode cX11_image 34 = .ok (.iconst 2, 1) := by decide +kernel
theorem dX11_image_35 : decode cX11_image 35 = .ok (.aload_n 0, 1) := by decide +kernel
theorem dX11_image_36 : decode cX11_image 36 = .ok (.getfield 232, 3) := by decide +kernel
theorem dX11_image_39 : decode cX11_image 39 = .ok (.iastore, 1) := by decide +kernel
theorem dX11_image_40 : decode cX11_image 40 = .ok (.aload_n 0, 1) := by decide +kernel
theorem dX11_image_41 : decode cX11_image 41 = .ok (.aload_n 0, 1) := by decide +kernel
theorem dX11_image_42 : decode cX11_image 42 = .ok (.getfield 19, 3) := by decide +kernel
theorem dX11_image_45 : decode cX11_image 45 = .ok (.aload_n 0, 1) := by decide +kernel
theorem dX11_image_46 : decode cX11_image 46 = .ok (.getfield 101, 3) := by decide +kernel
theorem dX11_image_49 : decode cX11_image 49 = .ok (.invokevirtual 222, 3) := by decide +kernel
theorem dX11_image_52 : decode cX11_image 52 = .ok (.aload_n 0, 1) := by decide +kernel
theorem dX11_image_53 : decode cX11_image 53 = .ok (.aload_n 0, 1) := by decide +kernel
theorem dX11_image_54 : decode cX11_image 54 = .ok (.getfield 53, 3) := by decide +kernel
theorem dX11_image_57 : decode cX11_image 57 = .ok (.aload_n 0, 1) := by decide +kernel
theorem dX11_image_58 : decode cX11_image 58 = .ok (.getfield 104, 3) := by decide +kernel
theorem dX11_image_61 : decode cX11_image 61 = .ok (.invokevirtual 222, 3) := by decide +kernel
theorem dX11_image_64 : decode cX11_image 64 = .ok (.aload_n 0, 1) := by decide +kernel
theorem dX11_image_65 : decode cX11_image 65 = .ok (.aload_n 0, 1) := by decide +kernel
theorem dX11_image_66 : decode cX11_image 66 = .ok (.getfield 59, 3) := by decide +kernel
theorem dX11_image_69 : decode cX11_image 69 = .ok (.aload_n 0, 1) := by decide +kernel
theorem dX11_image_70 : decode cX11_image 70 = .ok (.getfield 107, 3) := by decide +kernel
theorem dX11_image_73 : decode cX11_image 73 = .ok (.invokevirtual 222, 3) := by decide +kernel
theorem dX11_image_76 : decode cX11_image 76 = .ok (.aload_n 0, 1) := by decide +kernel
theorem dX11_image_77 : decode cX11_image 77 = .ok (.aload_n 0, 1) := by decide +kernel
theorem dX11_image_78 : decode cX11_image 78 = .ok (.getfield 65, 3) := by decide +kernel
theorem dX11_image_81 : decode cX11_image 81 = .ok (.aload_n 0, 1) := by decide +kernel
theorem dX11_image_82 : decode cX11_image 82 = .ok (.getfield 110, 3) := by decide +kernel
theorem dX11_image_85 : decode cX11_image 85 = .ok (.invokevirtual 222, 3) := by decide +kernel
theorem dX11_image_88 : decode cX11_image 88 = .ok (.return_, 1) := by decide +kernel
theorem bX11_image_0 {G : GX} {h : mH} {Q : mO → mH → Prop} (hi : Iv h) (K : WM G jX11_copies [.ref 83, .ref 87, .ref 112] (pI (pI (pI (pI (pI h 83 0 0) 83 55 1) 111 0 (gI (pI (pI h 83 0 0) 83 55 1) 83 30)) 111 1 (gI (pI (pI (pI h 83 0 0) 83 55 1) 111 0 (gI (pI (pI h 83 0 0) 83 55 1) 83 30)) 83 33)) 111 2 (gI (pI (pI (pI (pI h 83 0 0) 83 55 1) 111 0 (gI (pI (pI h 83 0 0) 83 55 1) 83 30)) 111 1 (gI (pI (pI (pI h 83 0 0) 83 55 1) 111 0 (gI (pI (pI h 83 0 0) 83 55 1) 83 30)) 83 33)) 83 36)) (Aft G jX11_image 49 [some (.ref 83)] [] Q)) : Vw G jX11_image 0 [some (.ref 83)] [] h Q :=
  s_aload_n dX11_image_0 rfl (s_iconst 0 dX11_image_1 (by decide) (s_putI dX11_image_2 flX11_113 ff10_0 rfl (hi.sh rfl rfl) (s_aload_n dX11_image_5 rfl (s_iconst 1 dX11_image_6 (by decide) (s_putZ dX11_image_7 flX11_235 ff10_55 rfl (hi.sh rfl rfl) (by decide) (s_aload_n dX11_image_10 rfl (s_getR (v := .ref 111) dX11_image_11 flX11_98 rfl (hi.sh rfl rfl) (hi.rf (o := 83) (k := 56) (d := 28) rfl rfl) (s_iconst 0 dX11_image_14 (by decide) (s_aload_n dX11_image_15 rfl (s_getI dX11_image_16 flX11_226 (Or.inl rfl) (hi.sh rfl rfl) (s_iastore dX11_image_19 (hi.sh rfl rfl) (by unfold vp_in; decide) (s_aload_n dX11_image_20 rfl (s_getR (v := .ref 111) dX11_image_21 flX11_98 rfl (hi.sh rfl rfl) (hi.rf (o := 83) (k := 56) (d := 28) rfl rfl) (s_iconst 1 dX11_image_24 (by decide) (s_aload_n dX11_image_25 rfl (s_getI dX11_image_26 flX11_229 (Or.inl rfl) (hi.sh rfl rfl) (s_iastore dX11_image_29 (hi.sh rfl rfl) (by unfold vp_in; decide) (s_aload_n dX11_image_30 rfl (s_getR (v := .ref 111) dX11_image_31 flX11_98 rfl (hi.sh rfl rfl) (hi.rf (o := 83) (k := 56) (d := 28) rfl rfl) (s_iconst 2 dX11_image_34 (by decide) (s_aload_n dX11_image_35 rfl (s_getI dX11_image_36 flX11_232 (Or.inl rfl) (hi.sh rfl rfl) (s_iastore dX11_image_39 (hi.sh rfl rfl) (by unfold vp_in; decide) (s_aload_n dX11_image_40 rfl (s_aload_n dX11_image_41 rfl (s_getR (v := .ref 87) dX11_image_42 flX11_19 rfl (hi.sh rfl rfl) (hi.rf (o := 83) (k := 6) (d := 4) rfl rfl) (s_aload_n dX11_image_45 rfl (s_getR (v := .ref 112) dX11_image_46 flX11_101 rfl (hi.sh rfl rfl) (hi.rf (o := 83) (k := 57) (d := 29) rfl rfl) (s_callV (As := [.ref 87, .ref 112]) dX11_image_49 rfl lvX11_222 ⟨Nat.le_of_ble_eq_true rfl, Nat.le_of_ble_eq_true rfl⟩ (hi.sh rfl rfl) ⟨_, _, by decide, rfl⟩ rfl (Nat.le_of_ble_eq_true rfl) (K))))))))))))))))))))))))))))))
theorem bX11_image_52 {G : GX} {h : mH} {Q : mO → mH → Prop} (hi : Iv h) (K : WM G jX11_copies [.ref 83, .ref 97, .ref 113] h (Aft G jX11_image 61 [some (.ref 83)] [] Q)) : Vw G jX11_image 52 [some (.ref 83)] [] h Q :=
  s_aload_n dX11_image_52 rfl (s_aload_n dX11_image_53 rfl (s_getR (v := .ref 97) dX11_image_54 flX11_53 rfl (hi.sh rfl rfl) (hi.rf (o := 83) (k := 31) (d := 14) rfl rfl) (s_aload_n dX11_image_57 rfl (s_getR (v := .ref 113) dX11_image_58 flX11_104 rfl (hi.sh rfl rfl) (hi.rf (o := 83) (k := 58) (d := 30) rfl rfl) (s_callV (As := [.ref 97, .ref 113]) dX11_image_61 rfl lvX11_222 ⟨Nat.le_of_ble_eq_true rfl, Nat.le_of_ble_eq_true rfl⟩ (hi.sh rfl rfl) ⟨_, _, by decide, rfl⟩ rfl (Nat.le_of_ble_eq_true rfl) (K))))))
theorem bX11_image_64 {G : GX} {h : mH} {Q : mO → mH → Prop} (hi : Iv h) (K : WM G jX11_copies [.ref 83, .ref 99, .ref 114] h (Aft G jX11_image 73 [some (.ref 83)] [] Q)) : Vw G jX11_image 64 [some (.ref 83)] [] h Q :=
  s_aload_n dX11_image_64 rfl (s_aload_n dX11_image_65 rfl (s_getR (v := .ref 99) dX11_image_66 flX11_59 rfl (hi.sh rfl rfl) (hi.rf (o := 83) (k := 34) (d := 16) rfl rfl) (s_aload_n dX11_image_69 rfl (s_getR (v := .ref 114) dX11_image_70 flX11_107 rfl (hi.sh rfl rfl) (hi.rf (o := 83) (k := 59) (d := 31) rfl rfl) (s_callV (As := [.ref 99, .ref 114]) dX11_image_73 rfl lvX11_222 ⟨Nat.le_of_ble_eq_true rfl, Nat.le_of_ble_eq_true rfl⟩ (hi.sh rfl rfl) ⟨_, _, by decide, rfl⟩ rfl (Nat.le_of_ble_eq_true rfl) (K))))))
theorem bX11_image_76 {G : GX} {h : mH} {Q : mO → mH → Prop} (hi : Iv h) (K : WM G jX11_copies [.ref 83, .ref 101, .ref 115] h (Aft G jX11_image 85 [none] [] Q)) : Vw G jX11_image 76 [some (.ref 83)] [] h Q :=
  s_aload_n dX11_image_76 rfl (s_aload_n dX11_image_77 rfl (s_getR (v := .ref 101) dX11_image_78 flX11_65 rfl (hi.sh rfl rfl) (hi.rf (o := 83) (k := 37) (d := 18) rfl rfl) (s_aload_n dX11_image_81 rfl (s_getR (v := .ref 115) dX11_image_82 flX11_110 rfl (hi.sh rfl rfl) (hi.rf (o := 83) (k := 60) (d := 32) rfl rfl) (Vw.mask [false] (s_callV (As := [.ref 101, .ref 115]) dX11_image_85 rfl lvX11_222 ⟨Nat.le_of_ble_eq_true rfl, Nat.le_of_ble_eq_true rfl⟩ (hi.sh rfl rfl) ⟨_, _, by decide, rfl⟩ rfl (Nat.le_of_ble_eq_true rfl) (K)))))))
theorem bX11_image_88 {G : GX} {h : mH} {Q : mO → mH → Prop} (hi : Iv h) (K : Q (.inl none) h) : Vw G jX11_image 88 [none] [] h Q :=
  s_return dX11_image_88 rfl K
theorem eX11_image {G : GX} {h : mH} {Q : mO → mH → Prop} (hi : Iv h) (K : WM G jX11_copies [.ref 83, .ref 87, .ref 112] (pI (pI (pI (pI (pI h 83 0 0) 83 55 1) 111 0 (gI (pI (pI h 83 0 0) 83 55 1) 83 30)) 111 1 (gI (pI (pI (pI h 83 0 0) 83 55 1) 111 0 (gI (pI (pI h 83 0 0) 83 55 1) 83 30)) 83 33)) 111 2 (gI (pI (pI (pI (pI h 83 0 0) 83 55 1) 111 0 (gI (pI (pI h 83 0 0) 83 55 1) 83 30)) 111 1 (gI (pI (pI (pI h 83 0 0) 83 55 1) 111 0 (gI (pI (pI h 83 0 0) 83 55 1) 83 30)) 83 33)) 83 36)) (Aft G jX11_image 49 [some (.ref 83)] [] Q)) : WM G jX11_image [.ref 83] h Q :=
  WM.body (ls := [some (.ref 83)]) rfl (by decide +kernel) rfl (Nat.le_of_ble_eq_true rfl) rfl ((bX11_image_0 hi  K))
theorem dX11_restore_0 : decode cX11_restore 0 = .ok (.aload_n 0, 1) := by decide +kernel
theorem dX11_restore_1 : decode cX11_restore 1 = .ok (.iconst 0, 1) := by decide +kernel
theorem dX11_restore_2 : decode cX11_restore 2 = .ok (.putfield 113, 3) := by decide +kernel
theorem dX11_restore_5 : decode cX11_restore 5 = .ok (.aload_n 0, 1) := by decide +kernel
theorem dX11_restore_6 : decode cX11_restore 6 = .ok (.getfield 235, 3) := by decide +kernel
theorem dX11_restore_9 : decode cX11_restore 9 = .ok (.ifCond .ne 5, 3) := by decide +kernel
theorem dX11_restore_12 : decode cX11_restore 12 = .ok (.iconst 0, 1) := by decide +kernel
theorem dX11_restore_13 : decode cX11_restore 13 = .ok (.ireturn, 1) := by decide +kernel
theorem dX11_restore_14 : decode cX11_restore 14 = .ok (.aload_n 0, 1) := by decide +kernel
theorem dX11_restore_15 : decode cX11_restore 15 = .ok (.aload_n 0, 1) := by decide +kernel
theorem dX11_restore_16 : decode cX11_restore 16 = .ok (.getfield 98, 3) := by decide +kernel
theorem dX11_restore_19 : decode cX11_restore 19 = .ok (.iconst 0, 1) := by decide +kernel
theorem dX11_restore_20 : decode cX11_restore 20 = .ok (.iaload, 1) := by decide +kernel
theorem dX11_restore_21 : decode cX11_restore 21 = .ok (.putfield 226, 3) := by decide +kernel
theorem dX11_restore_24 : decode cX11_restore 24 = .ok (.aload_n 0, 1) := by decide +kernel
theorem dX11_restore_25 : decode cX11_restore 25 = .ok (.aload_n 0, 1) := by decide +kernel
theorem dX11_restore_26 : decode cX11_restore 26 = .ok (.getfield 98, 3) := by decide +kernel
theorem dX11_restore_29 : decode cX11_restore 29 = .ok (.iconst 1, 1) := by decide +kernel
theorem dX11_restore_30 : decode cX11_restore 30 = .ok (.iaload, 1) := by decide +kernel
theorem dX11_restore_31 : decode cX11_restore 31 = .ok (.putfield 229, 3) := by decide +kernel
theorem dX11_restore_34 : decode cX11_restore 34 = .ok (.aload_n 0, 1) := by decide +kernel
theorem dX11_restore_35 : decode cX11_restore 35 = .ok (.aload_n 0, 1) := by decide +kernel
theorem dX11_restore_36 : decode cX11_restore 36 = .ok (.getfield 98, 3) := by decide +kernel
theorem dX11_restore_39 : decode cX11_restore 39 = .ok (.iconst 2, 1) := by decide +kernel
theorem dX11_restore_40 : decode cX11_restore 40 = .ok (.iaload, 1) := by decide +kernel
theorem dX11_restore_41 : decode cX11_restore 41 = .ok (.putfield 232, 3) := by decide +kernel
theorem dX11_restore_44 : decode cX11_restore 44 = .ok (.aload_n 0, 1) := by decide +kernel
theorem dX11_restore_45 : decode cX11_restore 45 = .ok (.aload_n 0, 1) := by decide +kernel
theorem dX11_restore_46 : decode cX11_restore 46 = .ok (.getfield 101, 3) := by decide +kernel
theorem dX11_restore_49 : decode cX11_restore 49 = .ok (.aload_n 0, 1) := by decide +kernel
theorem dX11_restore_50 : decode cX11_restore 50 = .ok (.getfield 19, 3) := by decide +kernel
theorem dX11_restore_53 : decode cX11_restore 53 = .ok (.invokevirtual 222, 3) := by decide +kernel
theorem dX11_restore_56 : decode cX11_restore 56 = .ok (.aload_n 0, 1) := by decide +kernel
theorem dX11_restore_57 : decode cX11_restore 57 = .ok (.aload_n 0, 1) := by decide +kernel
theorem dX11_restore_58 : decode cX11_restore 58 = .ok (.getfield 104, 3) := by decide +kernel
theorem dX11_restore_61 : decode cX11_restore 61 = .ok (.aload_n 0, 1) := by decide +kernel
theorem dX11_restore_62 : decode cX11_restore 62 = .ok (.getfield 53, 3) := by decide +kernel
theorem dX11_restore_65 : decode cX11_restore 65 = .ok (.invokevirtual 222, 3) := by decide +kernel
theorem dX11_restore_68 : decode cX11_restore 68 = .ok (.aload_n 0, 1) := by decide +kernel
theorem dX11_restore_69 : decode cX11_restore 69 = .ok (.aload_n 0, 1) := by decide +kernel
theorem dX11_restore_70 : decode cX11_restore 70 = .ok (.getfield 107, 3) := by decide +kernel
theorem dX11_restore_73 : decode cX11_restore 73 = .ok (.aload_n 0, 1) := by decide +kernel
theorem dX11_restore_74 : decode cX11_restore 74 = .ok (.getfield 59, 3) := by decide +kernel
theorem dX11_restore_77 : decode cX11_restore 77 = .ok (.invokevirtual 222, 3) := by decide +kernel
theorem dX11_restore_80 : decode cX11_restore 80 = .ok (.aload_n 0, 1) := by decide +kernel
theorem dX11_restore_81 : decode cX11_restore 81 = .ok (.aload_n 0, 1) := by decide +kernel
theorem dX11_restore_82 : decode cX11_restore 82 = .ok (.getfield 110, 3) := by decide +kernel
theorem dX11_restore_85 : decode cX11_restore 85 = .ok (.aload_n 0, 1) := by decide +kernel
theorem dX11_restore_86 : decode cX11_restore 86 = .ok (.getfield 65, 3) := by decide +kernel
theorem dX11_restore_89 : decode cX11_restore 89 = .ok (.invokevirtual 222, 3) := by decide +kernel
theorem dX11_restore_92 : decode cX11_restore 92 = .ok (.iconst 1, 1) := by decide +kernel
theorem dX11_restore_93 : decode cX11_restore 93 = .ok (.ireturn, 1) := by decide +kernel
theorem bX11_restore_0 {G : GX} {h : mH} {Q : mO → mH → Prop} (hi : Iv h) (K : (¬ (gI (pI h 83 0 0) 83 55) = 0 → WM G jX11_copies [.ref 83, .ref 112, .ref 87] (pI (pI (pI (pI h 83 0 0) 83 30 (gI (pI h 83 0 0) 111 0)) 83 33 (gI (pI (pI h 83 0 0) 83 30 (gI (pI h 83 0 0) 111 0)) 111 1)) 83 36 (gI (pI (pI (pI h 83 0 0) 83 30 (gI (pI h 83 0 0) 111 0)) 83 33 (gI (pI (pI h 83 0 0) 83 30 (gI (pI h 83 0 0) 111 0)) 111 1)) 111 2)) (Aft G jX11_restore 53 [some (.ref 83)] [] Q)) ∧ ((gI (pI h 83 0 0) 83 55) = 0 → Q (.inl (some (.int 0))) (pI h 83 0 0))) : Vw G jX11_restore 0 [some (.ref 83)] [] h Q :=
  s_aload_n dX11_restore_0 rfl (s_iconst 0 dX11_restore_1 (by decide) (s_putI dX11_restore_2 flX11_113 ff10_0 rfl (hi.sh rfl rfl) (s_aload_n dX11_restore_5 rfl (s_getI dX11_restore_6 flX11_235 (Or.inr rfl) (hi.sh rfl rfl) (s_if_ne 14 dX11_restore_9 rfl (fun q5 => s_aload_n dX11_restore_14 rfl (s_aload_n dX11_restore_15 rfl (s_getR (v := .ref 111) dX11_restore_16 flX11_98 rfl (hi.sh rfl rfl) (hi.rf (o := 83) (k := 56) (d := 28) rfl rfl) (s_iconst 0 dX11_restore_19 (by decide) (s_iaload dX11_restore_20 (hi.sh rfl rfl) (by unfold vp_in; decide) (s_putI dX11_restore_21 flX11_226 ff10_30 rfl (hi.sh rfl rfl) (s_aload_n dX11_restore_24 rfl (s_aload_n dX11_restore_25 rfl (s_getR (v := .ref 111) dX11_restore_26 flX11_98 rfl (hi.sh rfl rfl) (hi.rf (o := 83) (k := 56) (d := 28) rfl rfl) (s_iconst 1 dX11_restore_29 (by decide) (s_iaload dX11_restore_30 (hi.sh rfl rfl) (by unfold vp_in; decide) (s_putI dX11_restore_31 flX11_229 ff10_33 rfl (hi.sh rfl rfl) (s_aload_n dX11_restore_34 rfl (s_aload_n dX11_restore_35 rfl (s_getR (v := .ref 111) dX11_restore_36 flX11_98 rfl (hi.sh rfl rfl) (hi.rf (o := 83) (k := 56) (d := 28) rfl rfl) (s_iconst 2 dX11_restore_39 (by decide) (s_iaload dX11_restore_40 (hi.sh rfl rfl) (by unfold vp_in; decide) (s_putI dX11_restore_41 flX11_232 ff10_36 rfl (hi.sh rfl rfl) (s_aload_n dX11_restore_44 rfl (s_aload_n dX11_restore_45 rfl (s_getR (v := .ref 112) dX11_restore_46 flX11_101 rfl (hi.sh rfl rfl) (hi.rf (o := 83) (k := 57) (d := 29) rfl rfl) (s_aload_n dX11_restore_49 rfl (s_getR (v := .ref 87) dX11_restore_50 flX11_19 rfl (hi.sh rfl rfl) (hi.rf (o := 83) (k := 6) (d := 4) rfl rfl) (s_callV (As := [.ref 112, .ref 87]) dX11_restore_53 rfl lvX11_222 ⟨Nat.le_of_ble_eq_true rfl, Nat.le_of_ble_eq_true rfl⟩ (hi.sh rfl rfl) ⟨_, _, by decide, rfl⟩ rfl (Nat.le_of_ble_eq_true rfl) ((K.1 q5)))))))))))))))))))))))))) (fun q5 => s_iconst 0 dX11_restore_12 (by decide) (s_zreturn dX11_restore_13 rfl (by decide) (K.2 q5))))))))
theorem bX11_restore_56 {G : GX} {h : mH} {Q : mO → mH → Prop} (hi : Iv h) (K : WM G jX11_copies [.ref 83, .ref 113, .ref 97] h (Aft G jX11_restore 65 [some (.ref 83)] [] Q)) : Vw G jX11_restore 56 [some (.ref 83)] [] h Q :=
  s_aload_n dX11_restore_56 rfl (s_aload_n dX11_restore_57 rfl (s_getR (v := .ref 113) dX11_restore_58 flX11_104 rfl (hi.sh rfl rfl) (hi.rf (o := 83) (k := 58) (d := 30) rfl rfl) (s_aload_n dX11_restore_61 rfl (s_getR (v := .ref 97) dX11_restore_62 flX11_53 rfl (hi.sh rfl rfl) (hi.rf (o := 83) (k := 31) (d := 14) rfl rfl) (s_callV (As := [.ref 113, .ref 97]) dX11_restore_65 rfl lvX11_222 ⟨Nat.le_of_ble_eq_true rfl, Nat.le_of_ble_eq_true rfl⟩ (hi.sh rfl rfl) ⟨_, _, by decide, rfl⟩ rfl (Nat.le_of_ble_eq_true rfl) (K))))))
theorem bX11_restore_68 {G : GX} {h : mH} {Q : mO → mH → Prop} (hi : Iv h) (K : WM G jX11_copies [.ref 83, .ref 114, .ref 99] h (Aft G jX11_restore 77 [some (.ref 83)] [] Q)) : Vw G jX11_restore 68 [some (.ref 83)] [] h Q :=
  s_aload_n dX11_restore_68 rfl (s_aload_n dX11_restore_69 rfl (s_getR (v := .ref 114) dX11_restore_70 flX11_107 rfl (hi.sh rfl rfl) (hi.rf (o := 83) (k := 59) (d := 31) rfl rfl) (s_aload_n dX11_restore_73 rfl (s_getR (v := .ref 99) dX11_restore_74 flX11_59 rfl (hi.sh rfl rfl) (hi.rf (o := 83) (k := 34) (d := 16) rfl rfl) (s_callV (As := [.ref 114, .ref 99]) dX11_restore_77 rfl lvX11_222 ⟨Nat.le_of_ble_eq_true rfl, Nat.le_of_ble_eq_true rfl⟩ (hi.sh rfl rfl) ⟨_, _, by decide, rfl⟩ rfl (Nat.le_of_ble_eq_true rfl) (K))))))
theorem bX11_restore_80 {G : GX} {h : mH} {Q : mO → mH → Prop} (hi : Iv h) (K : WM G jX11_copies [.ref 83, .ref 115, .ref 101] h (Aft G jX11_restore 89 [none] [] Q)) : Vw G jX11_restore 80 [some (.ref 83)] [] h Q :=
  s_aload_n dX11_restore_80 rfl (s_aload_n dX11_restore_81 rfl (s_getR (v := .ref 115) dX11_restore_82 flX11_110 rfl (hi.sh rfl rfl) (hi.rf (o := 83) (k := 60) (d := 32) rfl rfl) (s_aload_n dX11_restore_85 rfl (s_getR (v := .ref 101) dX11_restore_86 flX11_65 rfl (hi.sh rfl rfl) (hi.rf (o := 83) (k := 37) (d := 18) rfl rfl) (Vw.mask [false] (s_callV (As := [.ref 115, .ref 101]) dX11_restore_89 rfl lvX11_222 ⟨Nat.le_of_ble_eq_true rfl, Nat.le_of_ble_eq_true rfl⟩ (hi.sh rfl rfl) ⟨_, _, by decide, rfl⟩ rfl (Nat.le_of_ble_eq_true rfl) (K)))))))
theorem bX11_restore_92 {G : GX} {h : mH} {Q : mO → mH → Prop} (hi : Iv h) (K : Q (.inl (some (.int 1))) h) : Vw G jX11_restore 92 [none] [] h Q :=
  s_iconst 1 dX11_restore_92 (by decide) (s_zreturn dX11_restore_93 rfl (by decide) K)
theorem eX11_restore {G : GX} {h : mH} {Q : mO → mH → Prop} (hi : Iv h) (K : (¬ (gI (pI h 83 0 0) 83 55) = 0 → WM G jX11_copies [.ref 83, .ref 112, .ref 87] (pI (pI (pI (pI h 83 0 0) 83 30 (gI (pI h 83 0 0) 111 0)) 83 33 (gI (pI (pI h 83 0 0) 83 30 (gI (pI h 83 0 0) 111 0)) 111 1)) 83 36 (gI (pI (pI (pI h 83 0 0) 83 30 (gI (pI h 83 0 0) 111 0)) 83 33 (gI (pI (pI h 83 0 0) 83 30 (gI (pI h 83 0 0) 111 0)) 111 1)) 111 2)) (Aft G jX11_restore 53 [some (.ref 83)] [] Q)) ∧ ((gI (pI h 83 0 0) 83 55) = 0 → Q (.inl (some (.int 0))) (pI h 83 0 0))) : WM G jX11_restore [.ref 83] h Q :=
  WM.body (ls := [some (.ref 83)]) rfl (by decide +kernel) rfl (Nat.le_of_ble_eq_true rfl) rfl ((bX11_restore_0 hi  K))
