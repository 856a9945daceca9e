theorem dX8_kindTold_0 : decode cX8_kindTold 0 = .ok (.aload_n 0, 1) := by decide +kernel
theorem dX8_kindTold_1 : decode cX8_kindTold 1 = .ok (.ldc 85, 2) := by decide +kernel
theorem dX8_kindTold_3 : decode cX8_kindTold 3 = .ok (.invokevirtual 22, 3) := by decide +kernel
theorem dX8_kindTold_6 : decode cX8_kindTold 6 = .ok (.ifCond .eq 5, 3) := by decide +kernel
theorem dX8_kindTold_9 : decode cX8_kindTold 9 = .ok (.iconst 0, 1) := by decide +kernel
theorem dX8_kindTold_10 : decode cX8_kindTold 10 = .ok (.ireturn, 1) := by decide +kernel
theorem dX8_kindTold_11 : decode cX8_kindTold 11 = .ok (.aload_n 0, 1) := by decide +kernel
theorem dX8_kindTold_12 : decode cX8_kindTold 12 = .ok (.ldc 87, 2) := by decide +kernel
theorem dX8_kindTold_14 : decode cX8_kindTold 14 = .ok (.invokevirtual 22, 3) := by decide +kernel
theorem dX8_kindTold_17 : decode cX8_kindTold 17 = .ok (.ifCond .eq 5, 3) := by decide +kernel
theorem dX8_kindTold_20 : decode cX8_kindTold 20 = .ok (.iconst 1, 1) := by decide +kernel
theorem dX8_kindTold_21 : decode cX8_kindTold 21 = .ok (.ireturn, 1) := by decide +kernel
theorem dX8_kindTold_22 : decode cX8_kindTold 22 = .ok (.aload_n 0, 1) := by decide +kernel
theorem dX8_kindTold_23 : decode cX8_kindTold 23 = .ok (.ldc 89, 2) := by decide +kernel
theorem dX8_kindTold_25 : decode cX8_kindTold 25 = .ok (.invokevirtual 22, 3) := by decide +kernel
theorem dX8_kindTold_28 : decode cX8_kindTold 28 = .ok (.ifCond .eq 7, 3) := by decide +kernel
theorem dX8_kindTold_31 : decode cX8_kindTold 31 = .ok (.iconst 2, 1) := by decide +kernel
theorem dX8_kindTold_32 : decode cX8_kindTold 32 = .ok (.goto 4, 3) := by decide +kernel
theorem dX8_kindTold_35 : decode cX8_kindTold 35 = .ok (.iconst (-1), 1) := by decide +kernel
theorem dX8_kindTold_36 : decode cX8_kindTold 36 = .ok (.ireturn, 1) := by decide +kernel
theorem bX8_kindTold_0 {G : GX} {h : mH} {Q : mO → mH → Prop} (hi : Iv h) (K : WM G jX9_isWord [.ref 1, .float (UInt32.ofNat 3)] h (Aft G jX8_kindTold 3 [some (.ref 1)] [] Q)) : Vw G jX8_kindTold 0 [some (.ref 1)] [] h Q :=
  s_aload_n dX8_kindTold_0 rfl (s_ldcS (n := 3) dX8_kindTold_1 rfl (by decide) (s_callV (As := [.float (UInt32.ofNat 3)]) dX8_kindTold_3 rfl lvX8_22 ⟨Nat.le_of_ble_eq_true rfl, Nat.le_of_ble_eq_true rfl⟩ (hi.sh rfl rfl) ⟨_, _, by decide, rfl⟩ rfl (Nat.le_of_ble_eq_true rfl) (K)))
theorem bX8_kindTold_6 {G : GX} {h : mH} {Q : mO → mH → Prop} {vs0 : Int32} (hi : Iv h) (K : (vs0 = 0 → WM G jX9_isWord [.ref 1, .float (UInt32.ofNat 4)] h (Aft G jX8_kindTold 14 [some (.ref 1)] [] Q)) ∧ (¬ vs0 = 0 → Q (.inl (some (.int 0))) h)) : Vw G jX8_kindTold 6 [some (.ref 1)] [.int vs0] h Q :=
  s_if_eq 11 dX8_kindTold_6 rfl (fun q0 => s_aload_n dX8_kindTold_11 rfl (s_ldcS (n := 4) dX8_kindTold_12 rfl (by decide) (s_callV (As := [.float (UInt32.ofNat 4)]) dX8_kindTold_14 rfl lvX8_22 ⟨Nat.le_of_ble_eq_true rfl, Nat.le_of_ble_eq_true rfl⟩ (hi.sh rfl rfl) ⟨_, _, by decide, rfl⟩ rfl (Nat.le_of_ble_eq_true rfl) ((K.1 q0))))) (fun q0 => s_iconst 0 dX8_kindTold_9 (by decide) (s_ireturn dX8_kindTold_10 rfl (K.2 q0)))
theorem bX8_kindTold_17 {G : GX} {h : mH} {Q : mO → mH → Prop} {vs0 : Int32} (hi : Iv h) (K : (vs0 = 0 → WM G jX9_isWord [.ref 1, .float (UInt32.ofNat 5)] h (Aft G jX8_kindTold 25 [none] [] Q)) ∧ (¬ vs0 = 0 → Q (.inl (some (.int 1))) h)) : Vw G jX8_kindTold 17 [some (.ref 1)] [.int vs0] h Q :=
  s_if_eq 22 dX8_kindTold_17 rfl (fun q0 => s_aload_n dX8_kindTold_22 rfl (s_ldcS (n := 5) dX8_kindTold_23 rfl (by decide) (Vw.mask [false] (s_callV (As := [.float (UInt32.ofNat 5)]) dX8_kindTold_25 rfl lvX8_22 ⟨Nat.le_of_ble_eq_true rfl, Nat.le_of_ble_eq_true rfl⟩ (hi.sh rfl rfl) ⟨_, _, by decide, rfl⟩ rfl (Nat.le_of_ble_eq_true rfl) ((K.1 q0)))))) (fun q0 => s_iconst 1 dX8_kindTold_20 (by decide) (s_ireturn dX8_kindTold_21 rfl (K.2 q0)))
theorem bX8_kindTold_28 {G : GX} {h : mH} {Q : mO → mH → Prop} {vs0 : Int32} (hi : Iv h) (K : (vs0 = 0 → Q (.inl (some (.int (-1)))) h) ∧ (¬ vs0 = 0 → Q (.inl (some (.int 2))) h)) : Vw G jX8_kindTold 28 [none] [.int vs0] h Q :=
  s_if_eq 35 dX8_kindTold_28 rfl (fun q0 => s_iconst (-1) dX8_kindTold_35 (by decide) (s_ireturn dX8_kindTold_36 rfl (K.1 q0))) (fun q0 => s_iconst 2 dX8_kindTold_31 (by decide) (s_goto 36 dX8_kindTold_32 rfl (s_ireturn dX8_kindTold_36 rfl (K.2 q0))))
theorem eX8_kindTold {G : GX} {h : mH} {Q : mO → mH → Prop} (hi : Iv h) (K : WM G jX9_isWord [.ref 1, .float (UInt32.ofNat 3)] h (Aft G jX8_kindTold 3 [some (.ref 1)] [] Q)) : WM G jX8_kindTold [.ref 1] h Q :=
  WM.body (ls := [some (.ref 1)]) rfl (by decide +kernel) rfl (Nat.le_of_ble_eq_true rfl) rfl ((bX8_kindTold_0 hi  K))
theorem dX8_readInto_0 : decode cX8_readInto 0 = .ok (.aload_n 0, 1) := by decide +kernel
theorem dX8_readInto_1 : decode cX8_readInto 1 = .ok (.iload_n 1, 1) := by decide +kernel
theorem dX8_readInto_2 : decode cX8_readInto 2 = .ok (.iload_n 2, 1) := by decide +kernel
theorem dX8_readInto_3 : decode cX8_readInto 3 = .ok (.invokevirtual 91, 3) := by decide +kernel
theorem dX8_readInto_6 : decode cX8_readInto 6 = .ok (.ifCond .ne 5, 3) := by decide +kernel
theorem dX8_readInto_9 : decode cX8_readInto 9 = .ok (.iconst 0, 1) := by decide +kernel
theorem dX8_readInto_10 : decode cX8_readInto 10 = .ok (.ireturn, 1) := by decide +kernel
theorem dX8_readInto_11 : decode cX8_readInto 11 = .ok (.aload_n 3, 1) := by decide +kernel
theorem dX8_readInto_12 : decode cX8_readInto 12 = .ok (.iload 4, 2) := by decide +kernel
theorem dX8_readInto_14 : decode cX8_readInto 14 = .ok (.aload_n 0, 1) := by decide +kernel
theorem dX8_readInto_15 : decode cX8_readInto 15 = .ok (.getfield 95, 3) := by decide +kernel
theorem dX8_readInto_18 : decode cX8_readInto 18 = .ok (.iastore, 1) := by decide +kernel
theorem dX8_readInto_19 : decode cX8_readInto 19 = .ok (.iconst 1, 1) := by decide +kernel
theorem dX8_readInto_20 : decode cX8_readInto 20 = .ok (.ireturn, 1) := by decide +kernel
theorem bX8_readInto_0 {G : GX} {h : mH} {Q : mO → mH → Prop} {v1 : Int32} {v2 : Int32} {r3 : Nat} {n3 : Nat} {v4 : Int32} (hi : Iv h) (k3 : kd r3 = (100, n3)) (K : WM G jX9_takeNumber [.ref 1, .int v1, .int v2] h (Aft G jX8_readInto 3 [some (.ref 1), none, none, some (.ref r3), some (.int v4)] [] Q)) : Vw G jX8_readInto 0 [some (.ref 1), some (.int v1), some (.int v2), some (.ref r3), some (.int v4)] [] h Q :=
  s_aload_n dX8_readInto_0 rfl (s_iload_n dX8_readInto_1 rfl (s_iload_n dX8_readInto_2 rfl (Vw.mask [true, false, false, true, true] (s_callV (As := [.int v1, .int v2]) dX8_readInto_3 rfl lvX8_91 ⟨Nat.le_of_ble_eq_true rfl, Nat.le_of_ble_eq_true rfl⟩ (hi.sh rfl rfl) ⟨_, _, by decide, rfl⟩ rfl (Nat.le_of_ble_eq_true rfl) (K)))))
theorem bX8_readInto_6 {G : GX} {h : mH} {Q : mO → mH → Prop} {r3 : Nat} {n3 : Nat} {v4 : Int32} {vs0 : Int32} (hi : Iv h) (k3 : kd r3 = (100, n3)) (K : (¬ vs0 = 0 → (vp_in v4 n3 ∧ Q (.inl (some (.int 1))) (pI h r3 (Int32.toNatClampNeg v4) (gI h 1 4)))) ∧ (vs0 = 0 → Q (.inl (some (.int 0))) h)) : Vw G jX8_readInto 6 [some (.ref 1), none, none, some (.ref r3), some (.int v4)] [.int vs0] h Q :=
  s_if_ne 11 dX8_readInto_6 rfl (fun q0 => s_aload_n dX8_readInto_11 rfl (s_iload dX8_readInto_12 rfl (s_aload_n dX8_readInto_14 rfl (s_getI dX8_readInto_15 flX8_95 (Or.inl rfl) (hi.sh rfl rfl) (s_iastore dX8_readInto_18 (hi.sh k3 rfl) (K.1 q0).1 (s_iconst 1 dX8_readInto_19 (by decide) (s_zreturn dX8_readInto_20 rfl (by decide) (K.1 q0).2))))))) (fun q0 => s_iconst 0 dX8_readInto_9 (by decide) (s_zreturn dX8_readInto_10 rfl (by decide) (K.2 q0)))
theorem eX8_readInto {G : GX} {h : mH} {Q : mO → mH → Prop} {v1 : Int32} {v2 : Int32} {r3 : Nat} {n3 : Nat} {v4 : Int32} (hi : Iv h) (k3 : kd r3 = (100, n3)) (K : WM G jX9_takeNumber [.ref 1, .int v1, .int v2] h (Aft G jX8_readInto 3 [some (.ref 1), none, none, some (.ref r3), some (.int v4)] [] Q)) : WM G jX8_readInto [.ref 1, .int v1, .int v2, .ref r3, .int v4] h Q :=
  WM.body (ls := [some (.ref 1), some (.int v1), some (.int v2), some (.ref r3), some (.int v4)]) rfl (by decide +kernel) rfl (Nat.le_of_ble_eq_true rfl) rfl ((bX8_readInto_0 hi k3 K))
theorem dX8_countPendulum_0 : decode cX8_countPendulum 0 = .ok (.aload_n 0, 1) := by decide +kernel
theorem dX8_countPendulum_1 : decode cX8_countPendulum 1 = .ok (.dup, 1) := by decide +kernel
theorem dX8_countPendulum_2 : decode cX8_countPendulum 2 = .ok (.getfield 53, 3) := by decide +kernel
theorem dX8_countPendulum_5 : decode cX8_countPendulum 5 = .ok (.iconst 1, 1) := by decide +kernel
theorem dX8_countPendulum_6 : decode cX8_countPendulum 6 = .ok (.iadd, 1) := by decide +kernel
theorem dX8_countPendulum_7 : decode cX8_countPendulum 7 = .ok (.putfield 53, 3) := by decide +kernel
theorem dX8_countPendulum_10 : decode cX8_countPendulum 10 = .ok (.iconst 1, 1) := by decide +kernel
theorem dX8_countPendulum_11 : decode cX8_countPendulum 11 = .ok (.ireturn, 1) := by decide +kernel
theorem bX8_countPendulum_0 {G : GX} {h : mH} {Q : mO → mH → Prop} {r0 : Nat} (hi : Iv h) (k0 : kd r0 = (2, 11)) (K : Q (.inl (some (.int 1))) (pI h r0 4 ((gI h r0 4) + 1))) : Vw G jX8_countPendulum 0 [some (.ref r0)] [] h Q :=
  s_aload_n dX8_countPendulum_0 rfl (s_dupr dX8_countPendulum_1 (s_getI dX8_countPendulum_2 flX8_53 (Or.inl rfl) (hi.sh k0 rfl) (s_iconst 1 dX8_countPendulum_5 (by decide) (s_iadd dX8_countPendulum_6 (s_putI dX8_countPendulum_7 flX8_53 ff2_4 rfl (hi.sh k0 rfl) (s_iconst 1 dX8_countPendulum_10 (by decide) (s_zreturn dX8_countPendulum_11 rfl (by decide) K)))))))
theorem eX8_countPendulum {G : GX} {h : mH} {Q : mO → mH → Prop} {r0 : Nat} (hi : Iv h) (k0 : kd r0 = (2, 11)) (K : Q (.inl (some (.int 1))) (pI h r0 4 ((gI h r0 4) + 1))) : WM G jX8_countPendulum [.ref r0] h Q :=
  WM.body (ls := [some (.ref r0)]) rfl (by decide +kernel) rfl (Nat.le_of_ble_eq_true rfl) rfl ((bX8_countPendulum_0 hi k0 K))
theorem dX8_readPendulum_0 : decode cX8_readPendulum 0 = .ok (.aload_n 1, 1) := by decide +kernel
theorem dX8_readPendulum_1 : decode cX8_readPendulum 1 = .ok (.getfield 53, 3) := by decide +kernel
theorem dX8_readPendulum_4 : decode cX8_readPendulum 4 = .ok (.istore_n 2, 1) := by decide +kernel
theorem dX8_readPendulum_5 : decode cX8_readPendulum 5 = .ok (.iload_n 2, 1) := by decide +kernel
theorem dX8_readPendulum_6 : decode cX8_readPendulum 6 = .ok (.iconst 4, 1) := by decide +kernel
theorem dX8_readPendulum_7 : decode cX8_readPendulum 7 = .ok (.if_icmp .lt 9, 3) := by decide +kernel
theorem dX8_readPendulum_10 : decode cX8_readPendulum 10 = .ok (.aload_n 0, 1) := by decide +kernel
theorem dX8_readPendulum_11 : decode cX8_readPendulum 11 = .ok (.iconst 2, 1) := by decide +kernel
theorem dX8_readPendulum_12 : decode cX8_readPendulum 12 = .ok (.invokevirtual 26, 3) := by decide +kernel
theorem dX8_readPendulum_15 : decode cX8_readPendulum 15 = .ok (.ireturn, 1) := by decide +kernel
theorem dX8_readPendulum_16 : decode cX8_readPendulum 16 = .ok (.aload_n 0, 1) := by decide +kernel
theorem dX8_readPendulum_17 : decode cX8_readPendulum 17 = .ok (.invokevirtual 57, 3) := by decide +kernel
theorem dX8_readPendulum_20 : decode cX8_readPendulum 20 = .ok (.aload_n 0, 1) := by decide +kernel
theorem dX8_readPendulum_21 : decode cX8_readPendulum 21 = .ok (.invokestatic 60, 3) := by decide +kernel
theorem dX8_readPendulum_24 : decode cX8_readPendulum 24 = .ok (.istore_n 3, 1) := by decide +kernel
theorem dX8_readPendulum_25 : decode cX8_readPendulum 25 = .ok (.iload_n 3, 1) := by decide +kernel
theorem dX8_readPendulum_26 : decode cX8_readPendulum 26 = .ok (.iconst (-1), 1) := by decide +kernel
theorem dX8_readPendulum_27 : decode cX8_readPendulum 27 = .ok (.if_icmp .ne 9, 3) := by decide +kernel
theorem dX8_readPendulum_30 : decode cX8_readPendulum 30 = .ok (.aload_n 0, 1) := by decide +kernel
theorem dX8_readPendulum_31 : decode cX8_readPendulum 31 = .ok (.iconst 1, 1) := by decide +kernel
theorem dX8_readPendulum_32 : decode cX8_readPendulum 32 = .ok (.invokevirtual 26, 3) := by decide +kernel
theorem dX8_readPendulum_35 : decode cX8_readPendulum 35 = .ok (.ireturn, 1) := by decide +kernel
theorem dX8_readPendulum_36 : decode cX8_readPendulum 36 = .ok (.aload_n 0, 1) := by decide +kernel
theorem dX8_readPendulum_37 : decode cX8_readPendulum 37 = .ok (.invokevirtual 57, 3) := by decide +kernel
theorem dX8_readPendulum_40 : decode cX8_readPendulum 40 = .ok (.aload_n 1, 1) := by decide +kernel
theorem dX8_readPendulum_41 : decode cX8_readPendulum 41 = .ok (.getfield 64, 3) := by decide +kernel
theorem dX8_readPendulum_44 : decode cX8_readPendulum 44 = .ok (.iload_n 2, 1) := by decide +kernel
theorem dX8_readPendulum_45 : decode cX8_readPendulum 45 = .ok (.iload_n 3, 1) := by decide +kernel
theorem dX8_readPendulum_46 : decode cX8_readPendulum 46 = .ok (.iastore, 1) := by decide +kernel
theorem dX8_readPendulum_47 : decode cX8_readPendulum 47 = .ok (.aload_n 0, 1) := by decide +kernel
theorem dX8_readPendulum_48 : decode cX8_readPendulum 48 = .ok (.iconst 2, 1) := by decide +kernel
theorem dX8_readPendulum_49 : decode cX8_readPendulum 49 = .ok (.bipush 40, 2) := by decide +kernel
theorem dX8_readPendulum_51 : decode cX8_readPendulum 51 = .ok (.aload_n 1, 1) := by decide +kernel
theorem dX8_readPendulum_52 : decode cX8_readPendulum 52 = .ok (.getfield 68, 3) := by decide +kernel
theorem dX8_readPendulum_55 : decode cX8_readPendulum 55 = .ok (.iload_n 2, 1) := by decide +kernel
theorem dX8_readPendulum_56 : decode cX8_readPendulum 56 = .ok (.invokestatic 71, 3) := by decide +kernel
theorem dX8_readPendulum_59 : decode cX8_readPendulum 59 = .ok (.ifCond .eq 64, 3) := by decide +kernel
theorem dX8_readPendulum_62 : decode cX8_readPendulum 62 = .ok (.aload_n 0, 1) := by decide +kernel
theorem dX8_readPendulum_63 : decode cX8_readPendulum 63 = .ok (.iconst 0, 1) := by decide +kernel
theorem dX8_readPendulum_64 : decode cX8_readPendulum 64 = .ok (.bipush 90, 2) := by decide +kernel
theorem dX8_readPendulum_66 : decode cX8_readPendulum 66 = .ok (.aload_n 1, 1) := by decide +kernel
theorem dX8_readPendulum_67 : decode cX8_readPendulum 67 = .ok (.getfield 75, 3) := by decide +kernel
theorem dX8_readPendulum_70 : decode cX8_readPendulum 70 = .ok (.bipush 8, 2) := by decide +kernel
theorem dX8_readPendulum_72 : decode cX8_readPendulum 72 = .ok (.iload_n 2, 1) := by decide +kernel
theorem dX8_readPendulum_73 : decode cX8_readPendulum 73 = .ok (.iadd, 1) := by decide +kernel
theorem dX8_readPendulum_74 : decode cX8_readPendulum 74 = .ok (.invokestatic 71, 3) := by decide +kernel
theorem dX8_readPendulum_77 : decode cX8_readPendulum 77 = .ok (.ifCond .eq 46, 3) := by decide +kernel
theorem dX8_readPendulum_80 : decode cX8_readPendulum 80 = .ok (.aload_n 0, 1) := by decide +kernel
theorem dX8_readPendulum_81 : decode cX8_readPendulum 81 = .ok (.iconst 0, 1) := by decide +kernel
theorem dX8_readPendulum_82 : decode cX8_readPendulum 82 = .ok (.bipush 99, 2) := by decide +kernel
theorem dX8_readPendulum_84 : decode cX8_readPendulum 84 = .ok (.aload_n 1, 1) := by decide +kernel
theorem dX8_readPendulum_85 : decode cX8_readPendulum 85 = .ok (.getfield 75, 3) := by decide +kernel
theorem dX8_readPendulum_88 : decode cX8_readPendulum 88 = .ok (.iconst 4, 1) := by decide +kernel
theorem dX8_readPendulum_89 : decode cX8_readPendulum 89 = .ok (.iload_n 2, 1) := by decide +kernel
theorem dX8_readPendulum_90 : decode cX8_readPendulum 90 = .ok (.iadd, 1) := by decide +kernel
theorem dX8_readPendulum_91 : decode cX8_readPendulum 91 = .ok (.invokestatic 71, 3) := by decide +kernel
theorem dX8_readPendulum_94 : decode cX8_readPendulum 94 = .ok (.ifCond .eq 29, 3) := by decide +kernel
theorem dX8_readPendulum_97 : decode cX8_readPendulum 97 = .ok (.aload_n 0, 1) := by decide +kernel
theorem dX8_readPendulum_98 : decode cX8_readPendulum 98 = .ok (.iconst 0, 1) := by decide +kernel
theorem dX8_readPendulum_99 : decode cX8_readPendulum 99 = .ok (.bipush 99, 2) := by decide +kernel
theorem dX8_readPendulum_101 : decode cX8_readPendulum 101 = .ok (.aload_n 1, 1) := by decide +kernel
theorem dX8_readPendulum_102 : decode cX8_readPendulum 102 = .ok (.getfield 78, 3) := by decide +kernel
theorem dX8_readPendulum_105 : decode cX8_readPendulum 105 = .ok (.iload_n 2, 1) := by decide +kernel
theorem dX8_readPendulum_106 : decode cX8_readPendulum 106 = .ok (.invokestatic 71, 3) := by decide +kernel
theorem dX8_readPendulum_109 : decode cX8_readPendulum 109 = .ok (.ifCond .eq 14, 3) := by decide +kernel
theorem dX8_readPendulum_112 : decode cX8_readPendulum 112 = .ok (.aload_n 1, 1) := by decide +kernel
theorem dX8_readPendulum_113 : decode cX8_readPendulum 113 = .ok (.invokestatic 81, 3) := by decide +kernel
theorem dX8_readPendulum_116 : decode cX8_readPendulum 116 = .ok (.ifCond .eq 7, 3) := by decide +kernel
theorem dX8_readPendulum_119 : decode cX8_readPendulum 119 = .ok (.iconst 1, 1) := by decide +kernel
theorem dX8_readPendulum_120 : decode cX8_readPendulum 120 = .ok (.goto 4, 3) := by decide +kernel
theorem dX8_readPendulum_123 : decode cX8_readPendulum 123 = .ok (.iconst 0, 1) := by decide +kernel
theorem dX8_readPendulum_124 : decode cX8_readPendulum 124 = .ok (.ireturn, 1) := by decide +kernel
theorem bX8_readPendulum_0 {G : GX} {h : mH} {Q : mO → mH → Prop} {r1 : Nat} (hi : Iv h) (k1 : kd r1 = (2, 11)) (K : ((gI h r1 4) < 4 → WM G jX9_advance [.ref 1] h (Aft G jX8_readPendulum 17 [some (.ref 1), some (.ref r1), some (.int (gI h r1 4)), none] [] Q)) ∧ (¬ (gI h r1 4) < 4 → WM G jX9_refuse [.ref 1, .int 2] h (Aft G jX8_readPendulum 12 [none, none, none, none] [] Q))) : Vw G jX8_readPendulum 0 [some (.ref 1), some (.ref r1), none, none] [] h Q :=
  s_aload_n dX8_readPendulum_0 rfl (s_getI dX8_readPendulum_1 flX8_53 (Or.inl rfl) (hi.sh k1 rfl) (s_istore_n dX8_readPendulum_4 (Nat.le_of_ble_eq_true rfl) rfl (s_iload_n dX8_readPendulum_5 rfl (s_iconst 4 dX8_readPendulum_6 (by decide) (s_icmp_lt 16 dX8_readPendulum_7 rfl (fun q5 => s_aload_n dX8_readPendulum_16 rfl (s_callV (As := []) dX8_readPendulum_17 rfl lvX8_57 ⟨Nat.le_of_ble_eq_true rfl, Nat.le_of_ble_eq_true rfl⟩ (hi.sh rfl rfl) ⟨_, _, by decide, rfl⟩ rfl (Nat.le_of_ble_eq_true rfl) ((K.1 q5)))) (fun q5 => s_aload_n dX8_readPendulum_10 rfl (s_iconst 2 dX8_readPendulum_11 (by decide) (Vw.mask [false, false, false, false] (s_callV (As := [.int 2]) dX8_readPendulum_12 rfl lvX8_26 ⟨Nat.le_of_ble_eq_true rfl, Nat.le_of_ble_eq_true rfl⟩ (hi.sh rfl rfl) ⟨_, _, by decide, rfl⟩ rfl (Nat.le_of_ble_eq_true rfl) ((K.2 q5)))))))))))
theorem bX8_readPendulum_15 {G : GX} {h : mH} {Q : mO → mH → Prop} {vs0 : Int32} (hi : Iv h) (K : (vs0 = 0 ∨ vs0 = 1) ∧ Q (.inl (some (.int vs0))) h) : Vw G jX8_readPendulum 15 [none, none, none, none] [.int vs0] h Q :=
  s_zreturn dX8_readPendulum_15 rfl K.1 K.2
theorem bX8_readPendulum_20 {G : GX} {h : mH} {Q : mO → mH → Prop} {r1 : Nat} {v2 : Int32} (hi : Iv h) (k1 : kd r1 = (2, 11)) (K : WM G jX8_kindTold [.ref 1] h (Aft G jX8_readPendulum 21 [some (.ref 1), some (.ref r1), some (.int v2), none] [] Q)) : Vw G jX8_readPendulum 20 [some (.ref 1), some (.ref r1), some (.int v2), none] [] h Q :=
  s_aload_n dX8_readPendulum_20 rfl (s_callS (As := [.ref 1]) dX8_readPendulum_21 rfl lsX8_60 ⟨Nat.le_of_ble_eq_true rfl, Nat.le_of_ble_eq_true rfl⟩ rfl (Nat.le_of_ble_eq_true rfl) (K))
theorem bX8_readPendulum_24 {G : GX} {h : mH} {Q : mO → mH → Prop} {r1 : Nat} {v2 : Int32} {vs0 : Int32} (hi : Iv h) (k1 : kd r1 = (2, 11)) (K : (¬ vs0 = (-1) → WM G jX9_advance [.ref 1] h (Aft G jX8_readPendulum 37 [some (.ref 1), some (.ref r1), some (.int v2), some (.int vs0)] [] Q)) ∧ (vs0 = (-1) → WM G jX9_refuse [.ref 1, .int 1] h (Aft G jX8_readPendulum 32 [none, none, none, none] [] Q))) : Vw G jX8_readPendulum 24 [some (.ref 1), some (.ref r1), some (.int v2), none] [.int vs0] h Q :=
  s_istore_n dX8_readPendulum_24 (Nat.le_of_ble_eq_true rfl) rfl (s_iload_n dX8_readPendulum_25 rfl (s_iconst (-1) dX8_readPendulum_26 (by decide) (s_icmp_ne 36 dX8_readPendulum_27 rfl (fun q3 => s_aload_n dX8_readPendulum_36 rfl (s_callV (As := []) dX8_readPendulum_37 rfl lvX8_57 ⟨Nat.le_of_ble_eq_true rfl, Nat.le_of_ble_eq_true rfl⟩ (hi.sh rfl rfl) ⟨_, _, by decide, rfl⟩ rfl (Nat.le_of_ble_eq_true rfl) ((K.1 q3)))) (fun q3 => s_aload_n dX8_readPendulum_30 rfl (s_iconst 1 dX8_readPendulum_31 (by decide) (Vw.mask [false, false, false, false] (s_callV (As := [.int 1]) dX8_readPendulum_32 rfl lvX8_26 ⟨Nat.le_of_ble_eq_true rfl, Nat.le_of_ble_eq_true rfl⟩ (hi.sh rfl rfl) ⟨_, _, by decide, rfl⟩ rfl (Nat.le_of_ble_eq_true rfl) ((K.2 q3)))))))))
theorem bX8_readPendulum_35 {G : GX} {h : mH} {Q : mO → mH → Prop} {vs0 : Int32} (hi : Iv h) (K : (vs0 = 0 ∨ vs0 = 1) ∧ Q (.inl (some (.int vs0))) h) : Vw G jX8_readPendulum 35 [none, none, none, none] [.int vs0] h Q :=
  s_zreturn dX8_readPendulum_35 rfl K.1 K.2
theorem bX8_readPendulum_40 {G : GX} {h : mH} {Q : mO → mH → Prop} {r1 : Nat} {v2 : Int32} {v3 : Int32} (hi : Iv h) (k1 : kd r1 = (2, 11)) (K : vp_in v2 4 ∧ WM G jX8_readInto [.ref 1, .int 2, .int 40, .ref (r1 + 2), .int v2] (pI h (r1 + 1) (Int32.toNatClampNeg v2) v3) (Aft G jX8_readPendulum 56 [some (.ref 1), some (.ref r1), some (.int v2), none] [] Q)) : Vw G jX8_readPendulum 40 [some (.ref 1), some (.ref r1), some (.int v2), some (.int v3)] [] h Q :=
  s_aload_n dX8_readPendulum_40 rfl (s_getR (v := .ref (r1 + 1)) dX8_readPendulum_41 flX8_64 rfl (hi.sh k1 rfl) (hi.rf (o := r1) (k := 0) (d := 1) k1 rfl) (s_iload_n dX8_readPendulum_44 rfl (s_iload_n dX8_readPendulum_45 rfl (s_iastore dX8_readPendulum_46 (hi.sh (kd2_0 k1) rfl) K.1 (s_aload_n dX8_readPendulum_47 rfl (s_iconst 2 dX8_readPendulum_48 (by decide) (s_bipush 40 dX8_readPendulum_49 (by decide) (s_aload_n dX8_readPendulum_51 rfl (s_getR (v := .ref (r1 + 2)) dX8_readPendulum_52 flX8_68 rfl (hi.sh k1 rfl) (hi.rf (o := r1) (k := 1) (d := 2) k1 rfl) (s_iload_n dX8_readPendulum_55 rfl (Vw.mask [true, true, true, false] (s_callS (As := [.ref 1, .int 2, .int 40, .ref (r1 + 2), .int v2]) dX8_readPendulum_56 rfl lsX8_71 ⟨Nat.le_of_ble_eq_true rfl, Nat.le_of_ble_eq_true rfl⟩ rfl (Nat.le_of_ble_eq_true rfl) (K.2)))))))))))))
theorem bX8_readPendulum_59 {G : GX} {h : mH} {Q : mO → mH → Prop} {r1 : Nat} {v2 : Int32} {vs0 : Int32} (hi : Iv h) (k1 : kd r1 = (2, 11)) (K : (vs0 = 0 → Q (.inl (some (.int 0))) h) ∧ (¬ vs0 = 0 → WM G jX8_readInto [.ref 1, .int 0, .int 90, .ref (r1 + 4), .int (8 + v2)] h (Aft G jX8_readPendulum 74 [some (.ref 1), some (.ref r1), some (.int v2), none] [] Q))) : Vw G jX8_readPendulum 59 [some (.ref 1), some (.ref r1), some (.int v2), none] [.int vs0] h Q :=
  s_if_eq 123 dX8_readPendulum_59 rfl (fun q0 => s_iconst 0 dX8_readPendulum_123 (by decide) (s_zreturn dX8_readPendulum_124 rfl (by decide) (K.1 q0))) (fun q0 => s_aload_n dX8_readPendulum_62 rfl (s_iconst 0 dX8_readPendulum_63 (by decide) (s_bipush 90 dX8_readPendulum_64 (by decide) (s_aload_n dX8_readPendulum_66 rfl (s_getR (v := .ref (r1 + 4)) dX8_readPendulum_67 flX8_75 rfl (hi.sh k1 rfl) (hi.rf (o := r1) (k := 3) (d := 4) k1 rfl) (s_bipush 8 dX8_readPendulum_70 (by decide) (s_iload_n dX8_readPendulum_72 rfl (s_iadd dX8_readPendulum_73 (s_callS (As := [.ref 1, .int 0, .int 90, .ref (r1 + 4), .int (8 + v2)]) dX8_readPendulum_74 rfl lsX8_71 ⟨Nat.le_of_ble_eq_true rfl, Nat.le_of_ble_eq_true rfl⟩ rfl (Nat.le_of_ble_eq_true rfl) ((K.2 q0)))))))))))
theorem bX8_readPendulum_77 {G : GX} {h : mH} {Q : mO → mH → Prop} {r1 : Nat} {v2 : Int32} {vs0 : Int32} (hi : Iv h) (k1 : kd r1 = (2, 11)) (K : (vs0 = 0 → Q (.inl (some (.int 0))) h) ∧ (¬ vs0 = 0 → WM G jX8_readInto [.ref 1, .int 0, .int 99, .ref (r1 + 4), .int (4 + v2)] h (Aft G jX8_readPendulum 91 [some (.ref 1), some (.ref r1), some (.int v2), none] [] Q))) : Vw G jX8_readPendulum 77 [some (.ref 1), some (.ref r1), some (.int v2), none] [.int vs0] h Q :=
  s_if_eq 123 dX8_readPendulum_77 rfl (fun q0 => s_iconst 0 dX8_readPendulum_123 (by decide) (s_zreturn dX8_readPendulum_124 rfl (by decide) (K.1 q0))) (fun q0 => s_aload_n dX8_readPendulum_80 rfl (s_iconst 0 dX8_readPendulum_81 (by decide) (s_bipush 99 dX8_readPendulum_82 (by decide) (s_aload_n dX8_readPendulum_84 rfl (s_getR (v := .ref (r1 + 4)) dX8_readPendulum_85 flX8_75 rfl (hi.sh k1 rfl) (hi.rf (o := r1) (k := 3) (d := 4) k1 rfl) (s_iconst 4 dX8_readPendulum_88 (by decide) (s_iload_n dX8_readPendulum_89 rfl (s_iadd dX8_readPendulum_90 (s_callS (As := [.ref 1, .int 0, .int 99, .ref (r1 + 4), .int (4 + v2)]) dX8_readPendulum_91 rfl lsX8_71 ⟨Nat.le_of_ble_eq_true rfl, Nat.le_of_ble_eq_true rfl⟩ rfl (Nat.le_of_ble_eq_true rfl) ((K.2 q0)))))))))))
theorem bX8_readPendulum_94 {G : GX} {h : mH} {Q : mO → mH → Prop} {r1 : Nat} {v2 : Int32} {vs0 : Int32} (hi : Iv h) (k1 : kd r1 = (2, 11)) (K : (vs0 = 0 → Q (.inl (some (.int 0))) h) ∧ (¬ vs0 = 0 → WM G jX8_readInto [.ref 1, .int 0, .int 99, .ref (r1 + 3), .int v2] h (Aft G jX8_readPendulum 106 [none, some (.ref r1), none, none] [] Q))) : Vw G jX8_readPendulum 94 [some (.ref 1), some (.ref r1), some (.int v2), none] [.int vs0] h Q :=
  s_if_eq 123 dX8_readPendulum_94 rfl (fun q0 => s_iconst 0 dX8_readPendulum_123 (by decide) (s_zreturn dX8_readPendulum_124 rfl (by decide) (K.1 q0))) (fun q0 => s_aload_n dX8_readPendulum_97 rfl (s_iconst 0 dX8_readPendulum_98 (by decide) (s_bipush 99 dX8_readPendulum_99 (by decide) (s_aload_n dX8_readPendulum_101 rfl (s_getR (v := .ref (r1 + 3)) dX8_readPendulum_102 flX8_78 rfl (hi.sh k1 rfl) (hi.rf (o := r1) (k := 2) (d := 3) k1 rfl) (s_iload_n dX8_readPendulum_105 rfl (Vw.mask [false, true, false, false] (s_callS (As := [.ref 1, .int 0, .int 99, .ref (r1 + 3), .int v2]) dX8_readPendulum_106 rfl lsX8_71 ⟨Nat.le_of_ble_eq_true rfl, Nat.le_of_ble_eq_true rfl⟩ rfl (Nat.le_of_ble_eq_true rfl) ((K.2 q0))))))))))
theorem bX8_readPendulum_109 {G : GX} {h : mH} {Q : mO → mH → Prop} {r1 : Nat} {vs0 : Int32} (hi : Iv h) (k1 : kd r1 = (2, 11)) (K : (vs0 = 0 → Q (.inl (some (.int 0))) h) ∧ (¬ vs0 = 0 → WM G jX8_countPendulum [.ref r1] h (Aft G jX8_readPendulum 113 [none, none, none, none] [] Q))) : Vw G jX8_readPendulum 109 [none, some (.ref r1), none, none] [.int vs0] h Q :=
  s_if_eq 123 dX8_readPendulum_109 rfl (fun q0 => s_iconst 0 dX8_readPendulum_123 (by decide) (s_zreturn dX8_readPendulum_124 rfl (by decide) (K.1 q0))) (fun q0 => s_aload_n dX8_readPendulum_112 rfl (Vw.mask [false, false, false, false] (s_callS (As := [.ref r1]) dX8_readPendulum_113 rfl lsX8_81 ⟨Nat.le_of_ble_eq_true rfl, Nat.le_of_ble_eq_true rfl⟩ rfl (Nat.le_of_ble_eq_true rfl) ((K.2 q0)))))
theorem bX8_readPendulum_116 {G : GX} {h : mH} {Q : mO → mH → Prop} {vs0 : Int32} (hi : Iv h) (K : (vs0 = 0 → Q (.inl (some (.int 0))) h) ∧ (¬ vs0 = 0 → Q (.inl (some (.int 1))) h)) : Vw G jX8_readPendulum 116 [none, none, none, none] [.int vs0] h Q :=
  s_if_eq 123 dX8_readPendulum_116 rfl (fun q0 => s_iconst 0 dX8_readPendulum_123 (by decide) (s_zreturn dX8_readPendulum_124 rfl (by decide) (K.1 q0))) (fun q0 => s_iconst 1 dX8_readPendulum_119 (by decide) (s_goto 124 dX8_readPendulum_120 rfl (s_zreturn dX8_readPendulum_124 rfl (by decide) (K.2 q0))))
theorem eX8_readPendulum {G : GX} {h : mH} {Q : mO → mH → Prop} {r1 : Nat} (hi : Iv h) (k1 : kd r1 = (2, 11)) (K : ((gI h r1 4) < 4 → WM G jX9_advance [.ref 1] h (Aft G jX8_readPendulum 17 [some (.ref 1), some (.ref r1), some (.int (gI h r1 4)), none] [] Q)) ∧ (¬ (gI h r1 4) < 4 → WM G jX9_refuse [.ref 1, .int 2] h (Aft G jX8_readPendulum 12 [none, none, none, none] [] Q))) : WM G jX8_readPendulum [.ref 1, .ref r1] h Q :=
  WM.body (ls := [some (.ref 1), some (.ref r1), none, none]) rfl (by decide +kernel) rfl (Nat.le_of_ble_eq_true rfl) rfl ((bX8_readPendulum_0 hi k1 K))
theorem dX8_readCart_0 : decode cX8_readCart 0 = .ok (.aload_n 1, 1) := by decide +kernel
theorem dX8_readCart_1 : decode cX8_readCart 1 = .ok (.getfield 98, 3) := by decide +kernel
theorem dX8_readCart_4 : decode cX8_readCart 4 = .ok (.istore_n 2, 1) := by decide +kernel
theorem dX8_readCart_5 : decode cX8_readCart 5 = .ok (.iload_n 2, 1) := by decide +kernel
theorem dX8_readCart_6 : decode cX8_readCart 6 = .ok (.iconst 4, 1) := by decide +kernel
theorem dX8_readCart_7 : decode cX8_readCart 7 = .ok (.if_icmp .lt 9, 3) := by decide +kernel
theorem dX8_readCart_10 : decode cX8_readCart 10 = .ok (.aload_n 0, 1) := by decide +kernel
theorem dX8_readCart_11 : decode cX8_readCart 11 = .ok (.iconst 2, 1) := by decide +kernel
theorem dX8_readCart_12 : decode cX8_readCart 12 = .ok (.invokevirtual 26, 3) := by decide +kernel
theorem dX8_readCart_15 : decode cX8_readCart 15 = .ok (.ireturn, 1) := by decide +kernel
theorem dX8_readCart_16 : decode cX8_readCart 16 = .ok (.aload_n 0, 1) := by decide +kernel
theorem dX8_readCart_17 : decode cX8_readCart 17 = .ok (.invokevirtual 57, 3) := by decide +kernel
theorem dX8_readCart_20 : decode cX8_readCart 20 = .ok (.aload_n 0, 1) := by decide +kernel
theorem dX8_readCart_21 : decode cX8_readCart 21 = .ok (.iconst 0, 1) := by decide +kernel
theorem dX8_readCart_22 : decode cX8_readCart 22 = .ok (.sipush 999, 3) := by decide +kernel
theorem dX8_readCart_25 : decode cX8_readCart 25 = .ok (.aload_n 1, 1) := by decide +kernel
theorem dX8_readCart_26 : decode cX8_readCart 26 = .ok (.getfield 101, 3) := by decide +kernel
theorem dX8_readCart_29 : decode cX8_readCart 29 = .ok (.iload_n 2, 1) := by decide +kernel
theorem dX8_readCart_30 : decode cX8_readCart 30 = .ok (.invokestatic 71, 3) := by decide +kernel
theorem dX8_readCart_33 : decode cX8_readCart 33 = .ok (.ifCond .ne 5, 3) := by decide +kernel
theorem dX8_readCart_36 : decode cX8_readCart 36 = .ok (.iconst 0, 1) := by decide +kernel
theorem dX8_readCart_37 : decode cX8_readCart 37 = .ok (.ireturn, 1) := by decide +kernel
theorem dX8_readCart_38 : decode cX8_readCart 38 = .ok (.iconst 0, 1) := by decide +kernel
theorem dX8_readCart_39 : decode cX8_readCart 39 = .ok (.istore_n 3, 1) := by decide +kernel
theorem dX8_readCart_40 : decode cX8_readCart 40 = .ok (.iload_n 3, 1) := by decide +kernel
theorem dX8_readCart_41 : decode cX8_readCart 41 = .ok (.iconst 2, 1) := by decide +kernel
theorem dX8_readCart_42 : decode cX8_readCart 42 = .ok (.if_icmp .ge 34, 3) := by decide +kernel
theorem dX8_readCart_45 : decode cX8_readCart 45 = .ok (.aload_n 0, 1) := by decide +kernel
theorem dX8_readCart_46 : decode cX8_readCart 46 = .ok (.bipush 20, 2) := by decide +kernel
theorem dX8_readCart_48 : decode cX8_readCart 48 = .ok (.invokevirtual 104, 3) := by decide +kernel
theorem dX8_readCart_51 : decode cX8_readCart 51 = .ok (.ifCond .ne 5, 3) := by decide +kernel
theorem dX8_readCart_54 : decode cX8_readCart 54 = .ok (.iconst 0, 1) := by decide +kernel
theorem dX8_readCart_55 : decode cX8_readCart 55 = .ok (.ireturn, 1) := by decide +kernel
theorem dX8_readCart_56 : decode cX8_readCart 56 = .ok (.aload_n 1, 1) := by decide +kernel
theorem dX8_readCart_57 : decode cX8_readCart 57 = .ok (.getfield 107, 3) := by decide +kernel
theorem dX8_readCart_60 : decode cX8_readCart 60 = .ok (.iconst 2, 1) := by decide +kernel
theorem dX8_readCart_61 : decode cX8_readCart 61 = .ok (.iload_n 2, 1) := by decide +kernel
theorem dX8_readCart_62 : decode cX8_readCart 62 = .ok (.imul, 1) := by decide +kernel
theorem dX8_readCart_63 : decode cX8_readCart 63 = .ok (.iload_n 3, 1) := by decide +kernel
theorem dX8_readCart_64 : decode cX8_readCart 64 = .ok (.iadd, 1) := by decide +kernel
theorem dX8_readCart_65 : decode cX8_readCart 65 = .ok (.aload_n 0, 1) := by decide +kernel
theorem dX8_readCart_66 : decode cX8_readCart 66 = .ok (.getfield 95, 3) := by decide +kernel
theorem dX8_readCart_69 : decode cX8_readCart 69 = .ok (.iastore, 1) := by decide +kernel
theorem dX8_readCart_70 : decode cX8_readCart 70 = .ok (.iinc 3 1, 3) := by decide +kernel
theorem dX8_readCart_73 : decode cX8_readCart 73 = .ok (.goto (-33), 3) := by decide +kernel
theorem dX8_readCart_76 : decode cX8_readCart 76 = .ok (.aload_n 1, 1) := by decide +kernel
theorem dX8_readCart_77 : decode cX8_readCart 77 = .ok (.dup, 1) := by decide +kernel
theorem dX8_readCart_78 : decode cX8_readCart 78 = .ok (.getfield 98, 3) := by decide +kernel
theorem dX8_readCart_81 : decode cX8_readCart 81 = .ok (.iconst 1, 1) := by decide +kernel
theorem dX8_readCart_82 : decode cX8_readCart 82 = .ok (.iadd, 1) := by decide +kernel
theorem dX8_readCart_83 : decode cX8_readCart 83 = .ok (.putfield 98, 3) := by decide +kernel
theorem dX8_readCart_86 : decode cX8_readCart 86 = .ok (.iconst 1, 1) := by decide +kernel
theorem dX8_readCart_87 : decode cX8_readCart 87 = .ok (.ireturn, 1) := by decide +kernel
theorem bX8_readCart_0 {G : GX} {h : mH} {Q : mO → mH → Prop} {r1 : Nat} (hi : Iv h) (k1 : kd r1 = (2, 11)) (K : ((gI h r1 5) < 4 → WM G jX9_advance [.ref 1] h (Aft G jX8_readCart 17 [some (.ref 1), some (.ref r1), some (.int (gI h r1 5)), none] [] Q)) ∧ (¬ (gI h r1 5) < 4 → WM G jX9_refuse [.ref 1, .int 2] h (Aft G jX8_readCart 12 [none, none, none, none] [] Q))) : Vw G jX8_readCart 0 [some (.ref 1), some (.ref r1), none, none] [] h Q :=
  s_aload_n dX8_readCart_0 rfl (s_getI dX8_readCart_1 flX8_98 (Or.inl rfl) (hi.sh k1 rfl) (s_istore_n dX8_readCart_4 (Nat.le_of_ble_eq_true rfl) rfl (s_iload_n dX8_readCart_5 rfl (s_iconst 4 dX8_readCart_6 (by decide) (s_icmp_lt 16 dX8_readCart_7 rfl (fun q5 => s_aload_n dX8_readCart_16 rfl (s_callV (As := []) dX8_readCart_17 rfl lvX8_57 ⟨Nat.le_of_ble_eq_true rfl, Nat.le_of_ble_eq_true rfl⟩ (hi.sh rfl rfl) ⟨_, _, by decide, rfl⟩ rfl (Nat.le_of_ble_eq_true rfl) ((K.1 q5)))) (fun q5 => s_aload_n dX8_readCart_10 rfl (s_iconst 2 dX8_readCart_11 (by decide) (Vw.mask [false, false, false, false] (s_callV (As := [.int 2]) dX8_readCart_12 rfl lvX8_26 ⟨Nat.le_of_ble_eq_true rfl, Nat.le_of_ble_eq_true rfl⟩ (hi.sh rfl rfl) ⟨_, _, by decide, rfl⟩ rfl (Nat.le_of_ble_eq_true rfl) ((K.2 q5)))))))))))
theorem bX8_readCart_15 {G : GX} {h : mH} {Q : mO → mH → Prop} {vs0 : Int32} (hi : Iv h) (K : (vs0 = 0 ∨ vs0 = 1) ∧ Q (.inl (some (.int vs0))) h) : Vw G jX8_readCart 15 [none, none, none, none] [.int vs0] h Q :=
  s_zreturn dX8_readCart_15 rfl K.1 K.2
theorem bX8_readCart_20 {G : GX} {h : mH} {Q : mO → mH → Prop} {r1 : Nat} {v2 : Int32} (hi : Iv h) (k1 : kd r1 = (2, 11)) (K : WM G jX8_readInto [.ref 1, .int 0, .int 999, .ref (r1 + 5), .int v2] h (Aft G jX8_readCart 30 [some (.ref 1), some (.ref r1), some (.int v2), none] [] Q)) : Vw G jX8_readCart 20 [some (.ref 1), some (.ref r1), some (.int v2), none] [] h Q :=
  s_aload_n dX8_readCart_20 rfl (s_iconst 0 dX8_readCart_21 (by decide) (s_sipush 999 dX8_readCart_22 (by decide) (s_aload_n dX8_readCart_25 rfl (s_getR (v := .ref (r1 + 5)) dX8_readCart_26 flX8_101 rfl (hi.sh k1 rfl) (hi.rf (o := r1) (k := 6) (d := 5) k1 rfl) (s_iload_n dX8_readCart_29 rfl (s_callS (As := [.ref 1, .int 0, .int 999, .ref (r1 + 5), .int v2]) dX8_readCart_30 rfl lsX8_71 ⟨Nat.le_of_ble_eq_true rfl, Nat.le_of_ble_eq_true rfl⟩ rfl (Nat.le_of_ble_eq_true rfl) (K)))))))
theorem bX8_readCart_33 {G : GX} {h : mH} {Q : mO → mH → Prop} {r1 : Nat} {v2 : Int32} {vs0 : Int32} (hi : Iv h) (k1 : kd r1 = (2, 11)) (K : (¬ vs0 = 0 → Vw G jX8_readCart 40 [some (.ref 1), some (.ref r1), some (.int v2), some (.int 0)] [] h Q) ∧ (vs0 = 0 → Q (.inl (some (.int 0))) h)) : Vw G jX8_readCart 33 [some (.ref 1), some (.ref r1), some (.int v2), none] [.int vs0] h Q :=
  s_if_ne 38 dX8_readCart_33 rfl (fun q0 => s_iconst 0 dX8_readCart_38 (by decide) (s_istore_n dX8_readCart_39 (Nat.le_of_ble_eq_true rfl) rfl ((K.1 q0)))) (fun q0 => s_iconst 0 dX8_readCart_36 (by decide) (s_zreturn dX8_readCart_37 rfl (by decide) (K.2 q0)))
theorem bX8_readCart_40 {G : GX} {h : mH} {Q : mO → mH → Prop} {r1 : Nat} {v2 : Int32} {v3 : Int32} (hi : Iv h) (k1 : kd r1 = (2, 11)) (K : (2 ≤ v3 → Q (.inl (some (.int 1))) (pI h r1 5 ((gI h r1 5) + 1))) ∧ (¬ 2 ≤ v3 → WM G jX9_takeSigned [.ref 1, .int 20] h (Aft G jX8_readCart 48 [some (.ref 1), some (.ref r1), some (.int v2), some (.int v3)] [] Q))) : Vw G jX8_readCart 40 [some (.ref 1), some (.ref r1), some (.int v2), some (.int v3)] [] h Q :=
  s_iload_n dX8_readCart_40 rfl (s_iconst 2 dX8_readCart_41 (by decide) (s_icmp_ge 76 dX8_readCart_42 rfl (fun q2 => s_aload_n dX8_readCart_76 rfl (s_dupr dX8_readCart_77 (s_getI dX8_readCart_78 flX8_98 (Or.inl rfl) (hi.sh k1 rfl) (s_iconst 1 dX8_readCart_81 (by decide) (s_iadd dX8_readCart_82 (s_putI dX8_readCart_83 flX8_98 ff2_5 rfl (hi.sh k1 rfl) (s_iconst 1 dX8_readCart_86 (by decide) (s_zreturn dX8_readCart_87 rfl (by decide) (K.1 q2))))))))) (fun q2 => s_aload_n dX8_readCart_45 rfl (s_bipush 20 dX8_readCart_46 (by decide) (s_callV (As := [.int 20]) dX8_readCart_48 rfl lvX8_104 ⟨Nat.le_of_ble_eq_true rfl, Nat.le_of_ble_eq_true rfl⟩ (hi.sh rfl rfl) ⟨_, _, by decide, rfl⟩ rfl (Nat.le_of_ble_eq_true rfl) ((K.2 q2)))))))
theorem bX8_readCart_51 {G : GX} {h : mH} {Q : mO → mH → Prop} {r1 : Nat} {v2 : Int32} {v3 : Int32} {vs0 : Int32} (hi : Iv h) (k1 : kd r1 = (2, 11)) (K : (¬ vs0 = 0 → (vp_in ((2 * v2) + v3) 8 ∧ Vw G jX8_readCart 40 [some (.ref 1), some (.ref r1), some (.int v2), some (.int (v3 + 1))] [] (pI h (r1 + 6) (Int32.toNatClampNeg ((2 * v2) + v3)) (gI h 1 4)) Q)) ∧ (vs0 = 0 → Q (.inl (some (.int 0))) h)) : Vw G jX8_readCart 51 [some (.ref 1), some (.ref r1), some (.int v2), some (.int v3)] [.int vs0] h Q :=
  s_if_ne 56 dX8_readCart_51 rfl (fun q0 => s_aload_n dX8_readCart_56 rfl (s_getR (v := .ref (r1 + 6)) dX8_readCart_57 flX8_107 rfl (hi.sh k1 rfl) (hi.rf (o := r1) (k := 7) (d := 6) k1 rfl) (s_iconst 2 dX8_readCart_60 (by decide) (s_iload_n dX8_readCart_61 rfl (s_imul dX8_readCart_62 (s_iload_n dX8_readCart_63 rfl (s_iadd dX8_readCart_64 (s_aload_n dX8_readCart_65 rfl (s_getI dX8_readCart_66 flX8_95 (Or.inl rfl) (hi.sh rfl rfl) (s_iastore dX8_readCart_69 (hi.sh (kd2_7 k1) rfl) (K.1 q0).1 (s_iinc 1 dX8_readCart_70 rfl (by decide) (Nat.le_of_ble_eq_true rfl) rfl (s_goto 40 dX8_readCart_73 rfl ((K.1 q0).2))))))))))))) (fun q0 => s_iconst 0 dX8_readCart_54 (by decide) (s_zreturn dX8_readCart_55 rfl (by decide) (K.2 q0)))
theorem eX8_readCart {G : GX} {h : mH} {Q : mO → mH → Prop} {r1 : Nat} (hi : Iv h) (k1 : kd r1 = (2, 11)) (K : ((gI h r1 5) < 4 → WM G jX9_advance [.ref 1] h (Aft G jX8_readCart 17 [some (.ref 1), some (.ref r1), some (.int (gI h r1 5)), none] [] Q)) ∧ (¬ (gI h r1 5) < 4 → WM G jX9_refuse [.ref 1, .int 2] h (Aft G jX8_readCart 12 [none, none, none, none] [] Q))) : WM G jX8_readCart [.ref 1, .ref r1] h Q :=
  WM.body (ls := [some (.ref 1), some (.ref r1), none, none]) rfl (by decide +kernel) rfl (Nat.le_of_ble_eq_true rfl) rfl ((bX8_readCart_0 hi k1 K))
theorem dX8_readPennies_0 : decode cX8_readPennies 0 = .ok (.aload_n 0, 1) := by decide +kernel
theorem dX8_readPennies_1 : decode cX8_readPennies 1 = .ok (.invokevirtual 57, 3) := by decide +kernel
theorem dX8_readPennies_4 : decode cX8_readPennies 4 = .ok (.iconst 0, 1) := by decide +kernel
theorem dX8_readPennies_5 : decode cX8_readPennies 5 = .ok (.istore_n 2, 1) := by decide +kernel
theorem dX8_readPennies_6 : decode cX8_readPennies 6 = .ok (.iload_n 2, 1) := by decide +kernel
theorem dX8_readPennies_7 : decode cX8_readPennies 7 = .ok (.iconst 4, 1) := by decide +kernel
theorem dX8_readPennies_8 : decode cX8_readPennies 8 = .ok (.if_icmp .ge 26, 3) := by decide +kernel
theorem dX8_readPennies_11 : decode cX8_readPennies 11 = .ok (.aload_n 0, 1) := by decide +kernel
theorem dX8_readPennies_12 : decode cX8_readPennies 12 = .ok (.iconst 0, 1) := by decide +kernel
theorem dX8_readPennies_13 : decode cX8_readPennies 13 = .ok (.bipush 9, 2) := by decide +kernel
theorem dX8_readPennies_15 : decode cX8_readPennies 15 = .ok (.aload_n 1, 1) := by decide +kernel
theorem dX8_readPennies_16 : decode cX8_readPennies 16 = .ok (.getfield 75, 3) := by decide +kernel
theorem dX8_readPennies_19 : decode cX8_readPennies 19 = .ok (.iload_n 2, 1) := by decide +kernel
theorem dX8_readPennies_20 : decode cX8_readPennies 20 = .ok (.invokestatic 71, 3) := by decide +kernel
theorem dX8_readPennies_23 : decode cX8_readPennies 23 = .ok (.ifCond .ne 5, 3) := by decide +kernel
theorem dX8_readPennies_26 : decode cX8_readPennies 26 = .ok (.iconst 0, 1) := by decide +kernel
theorem dX8_readPennies_27 : decode cX8_readPennies 27 = .ok (.ireturn, 1) := by decide +kernel
theorem dX8_readPennies_28 : decode cX8_readPennies 28 = .ok (.iinc 2 1, 3) := by decide +kernel
theorem dX8_readPennies_31 : decode cX8_readPennies 31 = .ok (.goto (-25), 3) := by decide +kernel
theorem dX8_readPennies_34 : decode cX8_readPennies 34 = .ok (.iconst 1, 1) := by decide +kernel
theorem dX8_readPennies_35 : decode cX8_readPennies 35 = .ok (.ireturn, 1) := by decide +kernel
theorem bX8_readPennies_0 {G : GX} {h : mH} {Q : mO → mH → Prop} {r1 : Nat} (hi : Iv h) (k1 : kd r1 = (2, 11)) (K : WM G jX9_advance [.ref 1] h (Aft G jX8_readPennies 1 [some (.ref 1), some (.ref r1), none] [] Q)) : Vw G jX8_readPennies 0 [some (.ref 1), some (.ref r1), none] [] h Q :=
  s_aload_n dX8_readPennies_0 rfl (s_callV (As := []) dX8_readPennies_1 rfl lvX8_57 ⟨Nat.le_of_ble_eq_true rfl, Nat.le_of_ble_eq_true rfl⟩ (hi.sh rfl rfl) ⟨_, _, by decide, rfl⟩ rfl (Nat.le_of_ble_eq_true rfl) (K))
theorem bX8_readPennies_4 {G : GX} {h : mH} {Q : mO → mH → Prop} {r1 : Nat} (hi : Iv h) (k1 : kd r1 = (2, 11)) (K : Vw G jX8_readPennies 6 [some (.ref 1), some (.ref r1), some (.int 0)] [] h Q) : Vw G jX8_readPennies 4 [some (.ref 1), some (.ref r1), none] [] h Q :=
  s_iconst 0 dX8_readPennies_4 (by decide) (s_istore_n dX8_readPennies_5 (Nat.le_of_ble_eq_true rfl) rfl (K))
theorem bX8_readPennies_6 {G : GX} {h : mH} {Q : mO → mH → Prop} {r1 : Nat} {v2 : Int32} (hi : Iv h) (k1 : kd r1 = (2, 11)) (K : (4 ≤ v2 → Q (.inl (some (.int 1))) h) ∧ (¬ 4 ≤ v2 → WM G jX8_readInto [.ref 1, .int 0, .int 9, .ref (r1 + 4), .int v2] h (Aft G jX8_readPennies 20 [some (.ref 1), some (.ref r1), some (.int v2)] [] Q))) : Vw G jX8_readPennies 6 [some (.ref 1), some (.ref r1), some (.int v2)] [] h Q :=
  s_iload_n dX8_readPennies_6 rfl (s_iconst 4 dX8_readPennies_7 (by decide) (s_icmp_ge 34 dX8_readPennies_8 rfl (fun q2 => s_iconst 1 dX8_readPennies_34 (by decide) (s_zreturn dX8_readPennies_35 rfl (by decide) (K.1 q2))) (fun q2 => s_aload_n dX8_readPennies_11 rfl (s_iconst 0 dX8_readPennies_12 (by decide) (s_bipush 9 dX8_readPennies_13 (by decide) (s_aload_n dX8_readPennies_15 rfl (s_getR (v := .ref (r1 + 4)) dX8_readPennies_16 flX8_75 rfl (hi.sh k1 rfl) (hi.rf (o := r1) (k := 3) (d := 4) k1 rfl) (s_iload_n dX8_readPennies_19 rfl (s_callS (As := [.ref 1, .int 0, .int 9, .ref (r1 + 4), .int v2]) dX8_readPennies_20 rfl lsX8_71 ⟨Nat.le_of_ble_eq_true rfl, Nat.le_of_ble_eq_true rfl⟩ rfl (Nat.le_of_ble_eq_true rfl) ((K.2 q2)))))))))))
theorem bX8_readPennies_23 {G : GX} {h : mH} {Q : mO → mH → Prop} {r1 : Nat} {v2 : Int32} {vs0 : Int32} (hi : Iv h) (k1 : kd r1 = (2, 11)) (K : (¬ vs0 = 0 → Vw G jX8_readPennies 6 [some (.ref 1), some (.ref r1), some (.int (v2 + 1))] [] h Q) ∧ (vs0 = 0 → Q (.inl (some (.int 0))) h)) : Vw G jX8_readPennies 23 [some (.ref 1), some (.ref r1), some (.int v2)] [.int vs0] h Q :=
  s_if_ne 28 dX8_readPennies_23 rfl (fun q0 => s_iinc 1 dX8_readPennies_28 rfl (by decide) (Nat.le_of_ble_eq_true rfl) rfl (s_goto 6 dX8_readPennies_31 rfl ((K.1 q0)))) (fun q0 => s_iconst 0 dX8_readPennies_26 (by decide) (s_zreturn dX8_readPennies_27 rfl (by decide) (K.2 q0)))
theorem eX8_readPennies {G : GX} {h : mH} {Q : mO → mH → Prop} {r1 : Nat} (hi : Iv h) (k1 : kd r1 = (2, 11)) (K : WM G jX9_advance [.ref 1] h (Aft G jX8_readPennies 1 [some (.ref 1), some (.ref r1), none] [] Q)) : WM G jX8_readPennies [.ref 1, .ref r1] h Q :=
  WM.body (ls := [some (.ref 1), some (.ref r1), none]) rfl (by decide +kernel) rfl (Nat.le_of_ble_eq_true rfl) rfl ((bX8_readPennies_0 hi k1 K))
theorem dX8_readLine_0 : decode cX8_readLine 0 = .ok (.aload_n 0, 1) := by decide +kernel
theorem dX8_readLine_1 : decode cX8_readLine 1 = .ok (.ldc 40, 2) := by decide +kernel
theorem dX8_readLine_3 : decode cX8_readLine 3 = .ok (.invokevirtual 22, 3) := by decide +kernel
theorem dX8_readLine_6 : decode cX8_readLine 6 = .ok (.ifCond .eq 9, 3) := by decide +kernel
theorem dX8_readLine_9 : decode cX8_readLine 9 = .ok (.aload_n 0, 1) := by decide +kernel
theorem dX8_readLine_10 : decode cX8_readLine 10 = .ok (.aload_n 1, 1) := by decide +kernel
theorem dX8_readLine_11 : decode cX8_readLine 11 = .ok (.invokestatic 42, 3) := by decide +kernel
theorem dX8_readLine_14 : decode cX8_readLine 14 = .ok (.ireturn, 1) := by decide +kernel
theorem dX8_readLine_15 : decode cX8_readLine 15 = .ok (.aload_n 0, 1) := by decide +kernel
theorem dX8_readLine_16 : decode cX8_readLine 16 = .ok (.ldc 45, 2) := by decide +kernel
theorem dX8_readLine_18 : decode cX8_readLine 18 = .ok (.invokevirtual 22, 3) := by decide +kernel
theorem dX8_readLine_21 : decode cX8_readLine 21 = .ok (.ifCond .eq 9, 3) := by decide +kernel
theorem dX8_readLine_24 : decode cX8_readLine 24 = .ok (.aload_n 0, 1) := by decide +kernel
theorem dX8_readLine_25 : decode cX8_readLine 25 = .ok (.aload_n 1, 1) := by decide +kernel
theorem dX8_readLine_26 : decode cX8_readLine 26 = .ok (.invokestatic 47, 3) := by decide +kernel
theorem dX8_readLine_29 : decode cX8_readLine 29 = .ok (.ireturn, 1) := by decide +kernel
theorem dX8_readLine_30 : decode cX8_readLine 30 = .ok (.aload_n 0, 1) := by decide +kernel
theorem dX8_readLine_31 : decode cX8_readLine 31 = .ok (.ldc 20, 2) := by decide +kernel
theorem dX8_readLine_33 : decode cX8_readLine 33 = .ok (.invokevirtual 22, 3) := by decide +kernel
theorem dX8_readLine_36 : decode cX8_readLine 36 = .ok (.ifCond .eq 9, 3) := by decide +kernel
theorem dX8_readLine_39 : decode cX8_readLine 39 = .ok (.aload_n 0, 1) := by decide +kernel
theorem dX8_readLine_40 : decode cX8_readLine 40 = .ok (.aload_n 1, 1) := by decide +kernel
theorem dX8_readLine_41 : decode cX8_readLine 41 = .ok (.invokestatic 50, 3) := by decide +kernel
theorem dX8_readLine_44 : decode cX8_readLine 44 = .ok (.ireturn, 1) := by decide +kernel
theorem dX8_readLine_45 : decode cX8_readLine 45 = .ok (.aload_n 0, 1) := by decide +kernel
theorem dX8_readLine_46 : decode cX8_readLine 46 = .ok (.iconst 1, 1) := by decide +kernel
theorem dX8_readLine_47 : decode cX8_readLine 47 = .ok (.invokevirtual 26, 3) := by decide +kernel
theorem dX8_readLine_50 : decode cX8_readLine 50 = .ok (.ireturn, 1) := by decide +kernel
theorem bX8_readLine_0 {G : GX} {h : mH} {Q : mO → mH → Prop} {r1 : Nat} (hi : Iv h) (k1 : kd r1 = (2, 11)) (K : WM G jX9_isWord [.ref 1, .float (UInt32.ofNat 2)] h (Aft G jX8_readLine 3 [some (.ref 1), some (.ref r1)] [] Q)) : Vw G jX8_readLine 0 [some (.ref 1), some (.ref r1)] [] h Q :=
  s_aload_n dX8_readLine_0 rfl (s_ldcS (n := 2) dX8_readLine_1 rfl (by decide) (s_callV (As := [.float (UInt32.ofNat 2)]) dX8_readLine_3 rfl lvX8_22 ⟨Nat.le_of_ble_eq_true rfl, Nat.le_of_ble_eq_true rfl⟩ (hi.sh rfl rfl) ⟨_, _, by decide, rfl⟩ rfl (Nat.le_of_ble_eq_true rfl) (K)))
theorem bX8_readLine_6 {G : GX} {h : mH} {Q : mO → mH → Prop} {r1 : Nat} {vs0 : Int32} (hi : Iv h) (k1 : kd r1 = (2, 11)) (K : (vs0 = 0 → WM G jX9_isWord [.ref 1, .float (UInt32.ofNat 6)] h (Aft G jX8_readLine 18 [some (.ref 1), some (.ref r1)] [] Q)) ∧ (¬ vs0 = 0 → WM G jX8_readPendulum [.ref 1, .ref r1] h (Aft G jX8_readLine 11 [none, none] [] Q))) : Vw G jX8_readLine 6 [some (.ref 1), some (.ref r1)] [.int vs0] h Q :=
  s_if_eq 15 dX8_readLine_6 rfl (fun q0 => s_aload_n dX8_readLine_15 rfl (s_ldcS (n := 6) dX8_readLine_16 rfl (by decide) (s_callV (As := [.float (UInt32.ofNat 6)]) dX8_readLine_18 rfl lvX8_22 ⟨Nat.le_of_ble_eq_true rfl, Nat.le_of_ble_eq_true rfl⟩ (hi.sh rfl rfl) ⟨_, _, by decide, rfl⟩ rfl (Nat.le_of_ble_eq_true rfl) ((K.1 q0))))) (fun q0 => s_aload_n dX8_readLine_9 rfl (s_aload_n dX8_readLine_10 rfl (Vw.mask [false, false] (s_callS (As := [.ref 1, .ref r1]) dX8_readLine_11 rfl lsX8_42 ⟨Nat.le_of_ble_eq_true rfl, Nat.le_of_ble_eq_true rfl⟩ rfl (Nat.le_of_ble_eq_true rfl) ((K.2 q0))))))
theorem bX8_readLine_14 {G : GX} {h : mH} {Q : mO → mH → Prop} {vs0 : Int32} (hi : Iv h) (K : (vs0 = 0 ∨ vs0 = 1) ∧ Q (.inl (some (.int vs0))) h) : Vw G jX8_readLine 14 [none, none] [.int vs0] h Q :=
  s_zreturn dX8_readLine_14 rfl K.1 K.2
theorem bX8_readLine_21 {G : GX} {h : mH} {Q : mO → mH → Prop} {r1 : Nat} {vs0 : Int32} (hi : Iv h) (k1 : kd r1 = (2, 11)) (K : (vs0 = 0 → WM G jX9_isWord [.ref 1, .float (UInt32.ofNat 1)] h (Aft G jX8_readLine 33 [some (.ref 1), some (.ref r1)] [] Q)) ∧ (¬ vs0 = 0 → WM G jX8_readCart [.ref 1, .ref r1] h (Aft G jX8_readLine 26 [none, none] [] Q))) : Vw G jX8_readLine 21 [some (.ref 1), some (.ref r1)] [.int vs0] h Q :=
  s_if_eq 30 dX8_readLine_21 rfl (fun q0 => s_aload_n dX8_readLine_30 rfl (s_ldcS (n := 1) dX8_readLine_31 rfl (by decide) (s_callV (As := [.float (UInt32.ofNat 1)]) dX8_readLine_33 rfl lvX8_22 ⟨Nat.le_of_ble_eq_true rfl, Nat.le_of_ble_eq_true rfl⟩ (hi.sh rfl rfl) ⟨_, _, by decide, rfl⟩ rfl (Nat.le_of_ble_eq_true rfl) ((K.1 q0))))) (fun q0 => s_aload_n dX8_readLine_24 rfl (s_aload_n dX8_readLine_25 rfl (Vw.mask [false, false] (s_callS (As := [.ref 1, .ref r1]) dX8_readLine_26 rfl lsX8_47 ⟨Nat.le_of_ble_eq_true rfl, Nat.le_of_ble_eq_true rfl⟩ rfl (Nat.le_of_ble_eq_true rfl) ((K.2 q0))))))
theorem bX8_readLine_29 {G : GX} {h : mH} {Q : mO → mH → Prop} {vs0 : Int32} (hi : Iv h) (K : (vs0 = 0 ∨ vs0 = 1) ∧ Q (.inl (some (.int vs0))) h) : Vw G jX8_readLine 29 [none, none] [.int vs0] h Q :=
  s_zreturn dX8_readLine_29 rfl K.1 K.2
theorem bX8_readLine_36 {G : GX} {h : mH} {Q : mO → mH → Prop} {r1 : Nat} {vs0 : Int32} (hi : Iv h) (k1 : kd r1 = (2, 11)) (K : (vs0 = 0 → WM G jX9_refuse [.ref 1, .int 1] h (Aft G jX8_readLine 47 [none, none] [] Q)) ∧ (¬ vs0 = 0 → WM G jX8_readPennies [.ref 1, .ref r1] h (Aft G jX8_readLine 41 [none, none] [] Q))) : Vw G jX8_readLine 36 [some (.ref 1), some (.ref r1)] [.int vs0] h Q :=
  s_if_eq 45 dX8_readLine_36 rfl (fun q0 => s_aload_n dX8_readLine_45 rfl (s_iconst 1 dX8_readLine_46 (by decide) (Vw.mask [false, false] (s_callV (As := [.int 1]) dX8_readLine_47 rfl lvX8_26 ⟨Nat.le_of_ble_eq_true rfl, Nat.le_of_ble_eq_true rfl⟩ (hi.sh rfl rfl) ⟨_, _, by decide, rfl⟩ rfl (Nat.le_of_ble_eq_true rfl) ((K.1 q0)))))) (fun q0 => s_aload_n dX8_readLine_39 rfl (s_aload_n dX8_readLine_40 rfl (Vw.mask [false, false] (s_callS (As := [.ref 1, .ref r1]) dX8_readLine_41 rfl lsX8_50 ⟨Nat.le_of_ble_eq_true rfl, Nat.le_of_ble_eq_true rfl⟩ rfl (Nat.le_of_ble_eq_true rfl) ((K.2 q0))))))
theorem bX8_readLine_44 {G : GX} {h : mH} {Q : mO → mH → Prop} {vs0 : Int32} (hi : Iv h) (K : (vs0 = 0 ∨ vs0 = 1) ∧ Q (.inl (some (.int vs0))) h) : Vw G jX8_readLine 44 [none, none] [.int vs0] h Q :=
  s_zreturn dX8_readLine_44 rfl K.1 K.2
theorem bX8_readLine_50 {G : GX} {h : mH} {Q : mO → mH → Prop} {vs0 : Int32} (hi : Iv h) (K : (vs0 = 0 ∨ vs0 = 1) ∧ Q (.inl (some (.int vs0))) h) : Vw G jX8_readLine 50 [none, none] [.int vs0] h Q :=
  s_zreturn dX8_readLine_50 rfl K.1 K.2
theorem eX8_readLine {G : GX} {h : mH} {Q : mO → mH → Prop} {r1 : Nat} (hi : Iv h) (k1 : kd r1 = (2, 11)) (K : WM G jX9_isWord [.ref 1, .float (UInt32.ofNat 2)] h (Aft G jX8_readLine 3 [some (.ref 1), some (.ref r1)] [] Q)) : WM G jX8_readLine [.ref 1, .ref r1] h Q :=
  WM.body (ls := [some (.ref 1), some (.ref r1)]) rfl (by decide +kernel) rfl (Nat.le_of_ble_eq_true rfl) rfl ((bX8_readLine_0 hi k1 K))
theorem dX8_read_0 : decode cX8_read 0 = .ok (.aload_n 1, 1) := by decide +kernel
theorem dX8_read_1 : decode cX8_read 1 = .ok (.invokevirtual 9, 3) := by decide +kernel
theorem dX8_read_4 : decode cX8_read 4 = .ok (.iconst 0, 1) := by decide +kernel
theorem dX8_read_5 : decode cX8_read 5 = .ok (.istore_n 2, 1) := by decide +kernel
theorem dX8_read_6 : decode cX8_read 6 = .ok (.iconst 0, 1) := by decide +kernel
theorem dX8_read_7 : decode cX8_read 7 = .ok (.istore_n 3, 1) := by decide +kernel
theorem dX8_read_8 : decode cX8_read 8 = .ok (.iload_n 3, 1) := by decide +kernel
theorem dX8_read_9 : decode cX8_read 9 = .ok (.sipush 400, 3) := by decide +kernel
theorem dX8_read_12 : decode cX8_read 12 = .ok (.if_icmp .ge 63, 3) := by decide +kernel
theorem dX8_read_15 : decode cX8_read 15 = .ok (.aload_n 0, 1) := by decide +kernel
theorem dX8_read_16 : decode cX8_read 16 = .ok (.invokevirtual 16, 3) := by decide +kernel
theorem dX8_read_19 : decode cX8_read 19 = .ok (.ifCond .ne 56, 3) := by decide +kernel
theorem dX8_read_22 : decode cX8_read 22 = .ok (.aload_n 0, 1) := by decide +kernel
theorem dX8_read_23 : decode cX8_read 23 = .ok (.ldc 20, 2) := by decide +kernel
theorem dX8_read_25 : decode cX8_read 25 = .ok (.invokevirtual 22, 3) := by decide +kernel
theorem dX8_read_28 : decode cX8_read 28 = .ok (.ifCond .eq 13, 3) := by decide +kernel
theorem dX8_read_31 : decode cX8_read 31 = .ok (.iload_n 2, 1) := by decide +kernel
theorem dX8_read_32 : decode cX8_read 32 = .ok (.ifCond .eq 9, 3) := by decide +kernel
theorem dX8_read_35 : decode cX8_read 35 = .ok (.aload_n 0, 1) := by decide +kernel
theorem dX8_read_36 : decode cX8_read 36 = .ok (.iconst 3, 1) := by decide +kernel
theorem dX8_read_37 : decode cX8_read 37 = .ok (.invokevirtual 26, 3) := by decide +kernel
theorem dX8_read_40 : decode cX8_read 40 = .ok (.ireturn, 1) := by decide +kernel
theorem dX8_read_41 : decode cX8_read 41 = .ok (.iload_n 2, 1) := by decide +kernel
theorem dX8_read_42 : decode cX8_read 42 = .ok (.aload_n 0, 1) := by decide +kernel
theorem dX8_read_43 : decode cX8_read 43 = .ok (.ldc 20, 2) := by decide +kernel
theorem dX8_read_45 : decode cX8_read 45 = .ok (.invokevirtual 22, 3) := by decide +kernel
theorem dX8_read_48 : decode cX8_read 48 = .ok (.ior, 1) := by decide +kernel
theorem dX8_read_49 : decode cX8_read 49 = .ok (.istore_n 2, 1) := by decide +kernel
theorem dX8_read_50 : decode cX8_read 50 = .ok (.aload_n 0, 1) := by decide +kernel
theorem dX8_read_51 : decode cX8_read 51 = .ok (.aload_n 1, 1) := by decide +kernel
theorem dX8_read_52 : decode cX8_read 52 = .ok (.invokestatic 30, 3) := by decide +kernel
theorem dX8_read_55 : decode cX8_read 55 = .ok (.ifCond .eq 12, 3) := by decide +kernel
theorem dX8_read_58 : decode cX8_read 58 = .ok (.aload_n 0, 1) := by decide +kernel
theorem dX8_read_59 : decode cX8_read 59 = .ok (.bipush 59, 2) := by decide +kernel
theorem dX8_read_61 : decode cX8_read 61 = .ok (.invokevirtual 36, 3) := by decide +kernel
theorem dX8_read_64 : decode cX8_read 64 = .ok (.ifCond .ne 5, 3) := by decide +kernel
theorem dX8_read_67 : decode cX8_read 67 = .ok (.iconst 0, 1) := by decide +kernel
theorem dX8_read_68 : decode cX8_read 68 = .ok (.ireturn, 1) := by decide +kernel
theorem dX8_read_69 : decode cX8_read 69 = .ok (.iinc 3 1, 3) := by decide +kernel
theorem dX8_read_72 : decode cX8_read 72 = .ok (.goto (-64), 3) := by decide +kernel
theorem dX8_read_75 : decode cX8_read 75 = .ok (.iconst 1, 1) := by decide +kernel
theorem dX8_read_76 : decode cX8_read 76 = .ok (.ireturn, 1) := by decide +kernel
theorem bX8_read_0 {G : GX} {h : mH} {Q : mO → mH → Prop} {r1 : Nat} (hi : Iv h) (k1 : kd r1 = (2, 11)) (K : WM G jX2_clear [.ref r1] h (Aft G jX8_read 1 [some (.ref 1), some (.ref r1), none, none] [] Q)) : Vw G jX8_read 0 [some (.ref 1), some (.ref r1), none, none] [] h Q :=
  s_aload_n dX8_read_0 rfl (s_callV (As := []) dX8_read_1 rfl lvX8_9 ⟨Nat.le_of_ble_eq_true rfl, Nat.le_of_ble_eq_true rfl⟩ (hi.sh k1 rfl) ⟨_, _, by decide, rfl⟩ rfl (Nat.le_of_ble_eq_true rfl) (K))
theorem bX8_read_4 {G : GX} {h : mH} {Q : mO → mH → Prop} {r1 : Nat} (hi : Iv h) (k1 : kd r1 = (2, 11)) (K : Vw G jX8_read 8 [some (.ref 1), some (.ref r1), some (.int 0), some (.int 0)] [] h Q) : Vw G jX8_read 4 [some (.ref 1), some (.ref r1), none, none] [] h Q :=
  s_iconst 0 dX8_read_4 (by decide) (s_istore_n dX8_read_5 (Nat.le_of_ble_eq_true rfl) rfl (s_iconst 0 dX8_read_6 (by decide) (s_istore_n dX8_read_7 (Nat.le_of_ble_eq_true rfl) rfl (K))))
theorem bX8_read_8 {G : GX} {h : mH} {Q : mO → mH → Prop} {r1 : Nat} {v2 : Int32} {v3 : Int32} (hi : Iv h) (k1 : kd r1 = (2, 11)) (K : (400 ≤ v3 → Q (.inl (some (.int 1))) h) ∧ (¬ 400 ≤ v3 → ((¬ (fX9_isEnd h) = 0 → Q (.inl (some (.int 1))) h) ∧ ((fX9_isEnd h) = 0 → WM G jX9_isWord [.ref 1, .float (UInt32.ofNat 1)] h (Aft G jX8_read 25 [some (.ref 1), some (.ref r1), some (.int v2), some (.int v3)] [] Q))))) : Vw G jX8_read 8 [some (.ref 1), some (.ref r1), some (.int v2), some (.int v3)] [] h Q :=
  s_iload_n dX8_read_8 rfl (s_sipush 400 dX8_read_9 (by decide) (s_icmp_ge 75 dX8_read_12 rfl (fun q2 => s_iconst 1 dX8_read_75 (by decide) (s_zreturn dX8_read_76 rfl (by decide) (K.1 q2))) (fun q2 => s_aload_n dX8_read_15 rfl (s_callV (As := []) dX8_read_16 rfl lvX8_16 ⟨Nat.le_of_ble_eq_true rfl, Nat.le_of_ble_eq_true rfl⟩ (hi.sh rfl rfl) ⟨_, _, by decide, rfl⟩ rfl (Nat.le_of_ble_eq_true rfl) (mX9_isEnd hi   (s_if_ne 75 dX8_read_19 rfl (fun q5 => s_iconst 1 dX8_read_75 (by decide) (s_zreturn dX8_read_76 rfl (by decide) ((K.2 q2).1 q5))) (fun q5 => s_aload_n dX8_read_22 rfl (s_ldcS (n := 1) dX8_read_23 rfl (by decide) (s_callV (As := [.float (UInt32.ofNat 1)]) dX8_read_25 rfl lvX8_22 ⟨Nat.le_of_ble_eq_true rfl, Nat.le_of_ble_eq_true rfl⟩ (hi.sh rfl rfl) ⟨_, _, by decide, rfl⟩ rfl (Nat.le_of_ble_eq_true rfl) (((K.2 q2).2 q5)))))))))))
theorem bX8_read_28 {G : GX} {h : mH} {Q : mO → mH → Prop} {r1 : Nat} {v2 : Int32} {v3 : Int32} {vs0 : Int32} (hi : Iv h) (k1 : kd r1 = (2, 11)) (K : (vs0 = 0 → Vw G jX8_read 41 [some (.ref 1), some (.ref r1), some (.int v2), some (.int v3)] [] h Q) ∧ (¬ vs0 = 0 → ((v2 = 0 → Vw G jX8_read 41 [some (.ref 1), some (.ref r1), some (.int v2), some (.int v3)] [] h Q) ∧ (¬ v2 = 0 → WM G jX9_refuse [.ref 1, .int 3] h (Aft G jX8_read 37 [none, none, none, none] [] Q))))) : Vw G jX8_read 28 [some (.ref 1), some (.ref r1), some (.int v2), some (.int v3)] [.int vs0] h Q :=
  s_if_eq 41 dX8_read_28 rfl (fun q0 => (K.1 q0)) (fun q0 => s_iload_n dX8_read_31 rfl (s_if_eq 41 dX8_read_32 rfl (fun q2 => ((K.2 q0).1 q2)) (fun q2 => s_aload_n dX8_read_35 rfl (s_iconst 3 dX8_read_36 (by decide) (Vw.mask [false, false, false, false] (s_callV (As := [.int 3]) dX8_read_37 rfl lvX8_26 ⟨Nat.le_of_ble_eq_true rfl, Nat.le_of_ble_eq_true rfl⟩ (hi.sh rfl rfl) ⟨_, _, by decide, rfl⟩ rfl (Nat.le_of_ble_eq_true rfl) (((K.2 q0).2 q2))))))))
theorem bX8_read_40 {G : GX} {h : mH} {Q : mO → mH → Prop} {vs0 : Int32} (hi : Iv h) (K : (vs0 = 0 ∨ vs0 = 1) ∧ Q (.inl (some (.int vs0))) h) : Vw G jX8_read 40 [none, none, none, none] [.int vs0] h Q :=
  s_zreturn dX8_read_40 rfl K.1 K.2
theorem bX8_read_41 {G : GX} {h : mH} {Q : mO → mH → Prop} {r1 : Nat} {v2 : Int32} {v3 : Int32} (hi : Iv h) (k1 : kd r1 = (2, 11)) (K : WM G jX9_isWord [.ref 1, .float (UInt32.ofNat 1)] h (Aft G jX8_read 45 [some (.ref 1), some (.ref r1), none, some (.int v3)] [.int v2] Q)) : Vw G jX8_read 41 [some (.ref 1), some (.ref r1), some (.int v2), some (.int v3)] [] h Q :=
  s_iload_n dX8_read_41 rfl (s_aload_n dX8_read_42 rfl (s_ldcS (n := 1) dX8_read_43 rfl (by decide) (Vw.mask [true, true, false, true] (s_callV (As := [.float (UInt32.ofNat 1)]) dX8_read_45 rfl lvX8_22 ⟨Nat.le_of_ble_eq_true rfl, Nat.le_of_ble_eq_true rfl⟩ (hi.sh rfl rfl) ⟨_, _, by decide, rfl⟩ rfl (Nat.le_of_ble_eq_true rfl) (K)))))
theorem bX8_read_48 {G : GX} {h : mH} {Q : mO → mH → Prop} {r1 : Nat} {v3 : Int32} {vs0 : Int32} {vs1 : Int32} (hi : Iv h) (k1 : kd r1 = (2, 11)) (K : WM G jX8_readLine [.ref 1, .ref r1] h (Aft G jX8_read 52 [some (.ref 1), some (.ref r1), some (.int (vs1 ||| vs0)), some (.int v3)] [] Q)) : Vw G jX8_read 48 [some (.ref 1), some (.ref r1), none, some (.int v3)] [.int vs0, .int vs1] h Q :=
  s_ior dX8_read_48 (s_istore_n dX8_read_49 (Nat.le_of_ble_eq_true rfl) rfl (s_aload_n dX8_read_50 rfl (s_aload_n dX8_read_51 rfl (s_callS (As := [.ref 1, .ref r1]) dX8_read_52 rfl lsX8_30 ⟨Nat.le_of_ble_eq_true rfl, Nat.le_of_ble_eq_true rfl⟩ rfl (Nat.le_of_ble_eq_true rfl) (K)))))
theorem bX8_read_55 {G : GX} {h : mH} {Q : mO → mH → Prop} {r1 : Nat} {v2 : Int32} {v3 : Int32} {vs0 : Int32} (hi : Iv h) (k1 : kd r1 = (2, 11)) (K : (vs0 = 0 → Q (.inl (some (.int 0))) h) ∧ (¬ vs0 = 0 → WM G jX9_takeSign [.ref 1, .int 59] h (Aft G jX8_read 61 [some (.ref 1), some (.ref r1), some (.int v2), some (.int v3)] [] Q))) : Vw G jX8_read 55 [some (.ref 1), some (.ref r1), some (.int v2), some (.int v3)] [.int vs0] h Q :=
  s_if_eq 67 dX8_read_55 rfl (fun q0 => s_iconst 0 dX8_read_67 (by decide) (s_zreturn dX8_read_68 rfl (by decide) (K.1 q0))) (fun q0 => s_aload_n dX8_read_58 rfl (s_bipush 59 dX8_read_59 (by decide) (s_callV (As := [.int 59]) dX8_read_61 rfl lvX8_36 ⟨Nat.le_of_ble_eq_true rfl, Nat.le_of_ble_eq_true rfl⟩ (hi.sh rfl rfl) ⟨_, _, by decide, rfl⟩ rfl (Nat.le_of_ble_eq_true rfl) ((K.2 q0)))))
theorem bX8_read_64 {G : GX} {h : mH} {Q : mO → mH → Prop} {r1 : Nat} {v2 : Int32} {v3 : Int32} {vs0 : Int32} (hi : Iv h) (k1 : kd r1 = (2, 11)) (K : (¬ vs0 = 0 → Vw G jX8_read 8 [some (.ref 1), some (.ref r1), some (.int v2), some (.int (v3 + 1))] [] h Q) ∧ (vs0 = 0 → Q (.inl (some (.int 0))) h)) : Vw G jX8_read 64 [some (.ref 1), some (.ref r1), some (.int v2), some (.int v3)] [.int vs0] h Q :=
  s_if_ne 69 dX8_read_64 rfl (fun q0 => s_iinc 1 dX8_read_69 rfl (by decide) (Nat.le_of_ble_eq_true rfl) rfl (s_goto 8 dX8_read_72 rfl ((K.1 q0)))) (fun q0 => s_iconst 0 dX8_read_67 (by decide) (s_zreturn dX8_read_68 rfl (by decide) (K.2 q0)))
theorem eX8_read {G : GX} {h : mH} {Q : mO → mH → Prop} {r1 : Nat} (hi : Iv h) (k1 : kd r1 = (2, 11)) (K : WM G jX2_clear [.ref r1] h (Aft G jX8_read 1 [some (.ref 1), some (.ref r1), none, none] [] Q)) : WM G jX8_read [.ref 1, .ref r1] h Q :=
  WM.body (ls := [some (.ref 1), some (.ref r1), none, none]) rfl (by decide +kernel) rfl (Nat.le_of_ble_eq_true rfl) rfl ((bX8_read_0 hi k1 K))
theorem dX7_addStep_0 : decode cX7_addStep 0 = .ok (.aload_n 0, 1) := by decide +kernel
theorem dX7_addStep_1 : decode cX7_addStep 1 = .ok (.getfield 29, 3) := by decide +kernel
theorem dX7_addStep_4 : decode cX7_addStep 4 = .ok (.bipush 100, 2) := by decide +kernel
theorem dX7_addStep_6 : decode cX7_addStep 6 = .ok (.if_icmp .lt 5, 3) := by decide +kernel
theorem dX7_addStep_9 : decode cX7_addStep 9 = .ok (.iconst 0, 1) := by decide +kernel
theorem dX7_addStep_10 : decode cX7_addStep 10 = .ok (.ireturn, 1) := by decide +kernel
theorem dX7_addStep_11 : decode cX7_addStep 11 = .ok (.aload_n 0, 1) := by decide +kernel
theorem dX7_addStep_12 : decode cX7_addStep 12 = .ok (.getfield 13, 3) := by decide +kernel
theorem dX7_addStep_15 : decode cX7_addStep 15 = .ok (.aload_n 0, 1) := by decide +kernel
theorem dX7_addStep_16 : decode cX7_addStep 16 = .ok (.getfield 29, 3) := by decide +kernel
theorem dX7_addStep_19 : decode cX7_addStep 19 = .ok (.iload_n 1, 1) := by decide +kernel
theorem dX7_addStep_20 : decode cX7_addStep 20 = .ok (.iastore, 1) := by decide +kernel
theorem dX7_addStep_21 : decode cX7_addStep 21 = .ok (.aload_n 0, 1) := by decide +kernel
theorem dX7_addStep_22 : decode cX7_addStep 22 = .ok (.getfield 17, 3) := by decide +kernel
theorem dX7_addStep_25 : decode cX7_addStep 25 = .ok (.aload_n 0, 1) := by decide +kernel
theorem dX7_addStep_26 : decode cX7_addStep 26 = .ok (.getfield 29, 3) := by decide +kernel
theorem dX7_addStep_29 : decode cX7_addStep 29 = .ok (.iconst 0, 1) := by decide +kernel
theorem dX7_addStep_30 : decode cX7_addStep 30 = .ok (.iastore, 1) := by decide +kernel
theorem dX7_addStep_31 : decode cX7_addStep 31 = .ok (.aload_n 0, 1) := by decide +kernel
theorem dX7_addStep_32 : decode cX7_addStep 32 = .ok (.getfield 20, 3) := by decide +kernel
theorem dX7_addStep_35 : decode cX7_addStep 35 = .ok (.aload_n 0, 1) := by decide +kernel
theorem dX7_addStep_36 : decode cX7_addStep 36 = .ok (.getfield 29, 3) := by decide +kernel
theorem dX7_addStep_39 : decode cX7_addStep 39 = .ok (.iconst 0, 1) := by decide +kernel
theorem dX7_addStep_40 : decode cX7_addStep 40 = .ok (.iastore, 1) := by decide +kernel
theorem dX7_addStep_41 : decode cX7_addStep 41 = .ok (.aload_n 0, 1) := by decide +kernel
theorem dX7_addStep_42 : decode cX7_addStep 42 = .ok (.getfield 23, 3) := by decide +kernel
theorem dX7_addStep_45 : decode cX7_addStep 45 = .ok (.aload_n 0, 1) := by decide +kernel
theorem dX7_addStep_46 : decode cX7_addStep 46 = .ok (.getfield 29, 3) := by decide +kernel
theorem dX7_addStep_49 : decode cX7_addStep 49 = .ok (.iconst 0, 1) := by decide +kernel
theorem dX7_addStep_50 : decode cX7_addStep 50 = .ok (.iastore, 1) := by decide +kernel
theorem dX7_addStep_51 : decode cX7_addStep 51 = .ok (.aload_n 0, 1) := by decide +kernel
theorem dX7_addStep_52 : decode cX7_addStep 52 = .ok (.dup, 1) := by decide +kernel
theorem dX7_addStep_53 : decode cX7_addStep 53 = .ok (.getfield 29, 3) := by decide +kernel
theorem dX7_addStep_56 : decode cX7_addStep 56 = .ok (.iconst 1, 1) := by decide +kernel
theorem dX7_addStep_57 : decode cX7_addStep 57 = .ok (.iadd, 1) := by decide +kernel
theorem dX7_addStep_58 : decode cX7_addStep 58 = .ok (.putfield 29, 3) := by decide +kernel
theorem dX7_addStep_61 : decode cX7_addStep 61 = .ok (.iconst 1, 1) := by decide +kernel
theorem dX7_addStep_62 : decode cX7_addStep 62 = .ok (.ireturn, 1) := by decide +kernel
theorem bX7_addStep_0 {G : GX} {h : mH} {Q : mO → mH → Prop} {r0 : Nat} {v1 : Int32} (hi : Iv h) (k0 : kd r0 = (7, 7)) (K : ((gI h r0 4) < 100 → (vp_in (gI h r0 4) 100 ∧ (vp_in (gI (pI h (r0 + 1) (Int32.toNatClampNeg (gI h r0 4)) v1) r0 4) 100 ∧ (vp_in (gI (pI (pI h (r0 + 1) (Int32.toNatClampNeg (gI h r0 4)) v1) (r0 + 2) (Int32.toNatClampNeg (gI (pI h (r0 + 1) (Int32.toNatClampNeg (gI h r0 4)) v1) r0 4)) 0) r0 4) 100 ∧ (vp_in (gI (pI (pI (pI h (r0 + 1) (Int32.toNatClampNeg (gI h r0 4)) v1) (r0 + 2) (Int32.toNatClampNeg (gI (pI h (r0 + 1) (Int32.toNatClampNeg (gI h r0 4)) v1) r0 4)) 0) (r0 + 3) (Int32.toNatClampNeg (gI (pI (pI h (r0 + 1) (Int32.toNatClampNeg (gI h r0 4)) v1) (r0 + 2) (Int32.toNatClampNeg (gI (pI h (r0 + 1) (Int32.toNatClampNeg (gI h r0 4)) v1) r0 4)) 0) r0 4)) 0) r0 4) 100 ∧ Q (.inl (some (.int 1))) (pI (pI (pI (pI (pI h (r0 + 1) (Int32.toNatClampNeg (gI h r0 4)) v1) (r0 + 2) (Int32.toNatClampNeg (gI (pI h (r0 + 1) (Int32.toNatClampNeg (gI h r0 4)) v1) r0 4)) 0) (r0 + 3) (Int32.toNatClampNeg (gI (pI (pI h (r0 + 1) (Int32.toNatClampNeg (gI h r0 4)) v1) (r0 + 2) (Int32.toNatClampNeg (gI (pI h (r0 + 1) (Int32.toNatClampNeg (gI h r0 4)) v1) r0 4)) 0) r0 4)) 0) (r0 + 4) (Int32.toNatClampNeg (gI (pI (pI (pI h (r0 + 1) (Int32.toNatClampNeg (gI h r0 4)) v1) (r0 + 2) (Int32.toNatClampNeg (gI (pI h (r0 + 1) (Int32.toNatClampNeg (gI h r0 4)) v1) r0 4)) 0) (r0 + 3) (Int32.toNatClampNeg (gI (pI (pI h (r0 + 1) (Int32.toNatClampNeg (gI h r0 4)) v1) (r0 + 2) (Int32.toNatClampNeg (gI (pI h (r0 + 1) (Int32.toNatClampNeg (gI h r0 4)) v1) r0 4)) 0) r0 4)) 0) r0 4)) 0) r0 4 ((gI (pI (pI (pI (pI h (r0 + 1) (Int32.toNatClampNeg (gI h r0 4)) v1) (r0 + 2) (Int32.toNatClampNeg (gI (pI h (r0 + 1) (Int32.toNatClampNeg (gI h r0 4)) v1) r0 4)) 0) (r0 + 3) (Int32.toNatClampNeg (gI (pI (pI h (r0 + 1) (Int32.toNatClampNeg (gI h r0 4)) v1) (r0 + 2) (Int32.toNatClampNeg (gI (pI h (r0 + 1) (Int32.toNatClampNeg (gI h r0 4)) v1) r0 4)) 0) r0 4)) 0) (r0 + 4) (Int32.toNatClampNeg (gI (pI (pI (pI h (r0 + 1) (Int32.toNatClampNeg (gI h r0 4)) v1) (r0 + 2) (Int32.toNatClampNeg (gI (pI h (r0 + 1) (Int32.toNatClampNeg (gI h r0 4)) v1) r0 4)) 0) (r0 + 3) (Int32.toNatClampNeg (gI (pI (pI h (r0 + 1) (Int32.toNatClampNeg (gI h r0 4)) v1) (r0 + 2) (Int32.toNatClampNeg (gI (pI h (r0 + 1) (Int32.toNatClampNeg (gI h r0 4)) v1) r0 4)) 0) r0 4)) 0) r0 4)) 0) r0 4) + 1))))))) ∧ (¬ (gI h r0 4) < 100 → Q (.inl (some (.int 0))) h)) : Vw G jX7_addStep 0 [some (.ref r0), some (.int v1)] [] h Q :=
  s_aload_n dX7_addStep_0 rfl (s_getI dX7_addStep_1 flX7_29 (Or.inl rfl) (hi.sh k0 rfl) (s_bipush 100 dX7_addStep_4 (by decide) (s_icmp_lt 11 dX7_addStep_6 rfl (fun q3 => s_aload_n dX7_addStep_11 rfl (s_getR (v := .ref (r0 + 1)) dX7_addStep_12 flX7_13 rfl (hi.sh k0 rfl) (hi.rf (o := r0) (k := 0) (d := 1) k0 rfl) (s_aload_n dX7_addStep_15 rfl (s_getI dX7_addStep_16 flX7_29 (Or.inl rfl) (hi.sh k0 rfl) (s_iload_n dX7_addStep_19 rfl (s_iastore dX7_addStep_20 (hi.sh (kd7_0 k0) rfl) (K.1 q3).1 (s_aload_n dX7_addStep_21 rfl (s_getR (v := .ref (r0 + 2)) dX7_addStep_22 flX7_17 rfl (hi.sh k0 rfl) (hi.rf (o := r0) (k := 1) (d := 2) k0 rfl) (s_aload_n dX7_addStep_25 rfl (s_getI dX7_addStep_26 flX7_29 (Or.inl rfl) (hi.sh k0 rfl) (s_iconst 0 dX7_addStep_29 (by decide) (s_iastore dX7_addStep_30 (hi.sh (kd7_1 k0) rfl) (K.1 q3).2.1 (s_aload_n dX7_addStep_31 rfl (s_getR (v := .ref (r0 + 3)) dX7_addStep_32 flX7_20 rfl (hi.sh k0 rfl) (hi.rf (o := r0) (k := 2) (d := 3) k0 rfl) (s_aload_n dX7_addStep_35 rfl (s_getI dX7_addStep_36 flX7_29 (Or.inl rfl) (hi.sh k0 rfl) (s_iconst 0 dX7_addStep_39 (by decide) (s_iastore dX7_addStep_40 (hi.sh (kd7_2 k0) rfl) (K.1 q3).2.2.1 (s_aload_n dX7_addStep_41 rfl (s_getR (v := .ref (r0 + 4)) dX7_addStep_42 flX7_23 rfl (hi.sh k0 rfl) (hi.rf (o := r0) (k := 3) (d := 4) k0 rfl) (s_aload_n dX7_addStep_45 rfl (s_getI dX7_addStep_46 flX7_29 (Or.inl rfl) (hi.sh k0 rfl) (s_iconst 0 dX7_addStep_49 (by decide) (s_iastore dX7_addStep_50 (hi.sh (kd7_3 k0) rfl) (K.1 q3).2.2.2.1 (s_aload_n dX7_addStep_51 rfl (s_dupr dX7_addStep_52 (s_getI dX7_addStep_53 flX7_29 (Or.inl rfl) (hi.sh k0 rfl) (s_iconst 1 dX7_addStep_56 (by decide) (s_iadd dX7_addStep_57 (s_putI dX7_addStep_58 flX7_29 ff7_4 rfl (hi.sh k0 rfl) (s_iconst 1 dX7_addStep_61 (by decide) (s_zreturn dX7_addStep_62 rfl (by decide) (K.1 q3).2.2.2.2)))))))))))))))))))))))))))))))) (fun q3 => s_iconst 0 dX7_addStep_9 (by decide) (s_zreturn dX7_addStep_10 rfl (by decide) (K.2 q3))))))
theorem eX7_addStep {G : GX} {h : mH} {Q : mO → mH → Prop} {r0 : Nat} {v1 : Int32} (hi : Iv h) (k0 : kd r0 = (7, 7)) (K : ((gI h r0 4) < 100 → (vp_in (gI h r0 4) 100 ∧ (vp_in (gI (pI h (r0 + 1) (Int32.toNatClampNeg (gI h r0 4)) v1) r0 4) 100 ∧ (vp_in (gI (pI (pI h (r0 + 1) (Int32.toNatClampNeg (gI h r0 4)) v1) (r0 + 2) (Int32.toNatClampNeg (gI (pI h (r0 + 1) (Int32.toNatClampNeg (gI h r0 4)) v1) r0 4)) 0) r0 4) 100 ∧ (vp_in (gI (pI (pI (pI h (r0 + 1) (Int32.toNatClampNeg (gI h r0 4)) v1) (r0 + 2) (Int32.toNatClampNeg (gI (pI h (r0 + 1) (Int32.toNatClampNeg (gI h r0 4)) v1) r0 4)) 0) (r0 + 3) (Int32.toNatClampNeg (gI (pI (pI h (r0 + 1) (Int32.toNatClampNeg (gI h r0 4)) v1) (r0 + 2) (Int32.toNatClampNeg (gI (pI h (r0 + 1) (Int32.toNatClampNeg (gI h r0 4)) v1) r0 4)) 0) r0 4)) 0) r0 4) 100 ∧ Q (.inl (some (.int 1))) (pI (pI (pI (pI (pI h (r0 + 1) (Int32.toNatClampNeg (gI h r0 4)) v1) (r0 + 2) (Int32.toNatClampNeg (gI (pI h (r0 + 1) (Int32.toNatClampNeg (gI h r0 4)) v1) r0 4)) 0) (r0 + 3) (Int32.toNatClampNeg (gI (pI (pI h (r0 + 1) (Int32.toNatClampNeg (gI h r0 4)) v1) (r0 + 2) (Int32.toNatClampNeg (gI (pI h (r0 + 1) (Int32.toNatClampNeg (gI h r0 4)) v1) r0 4)) 0) r0 4)) 0) (r0 + 4) (Int32.toNatClampNeg (gI (pI (pI (pI h (r0 + 1) (Int32.toNatClampNeg (gI h r0 4)) v1) (r0 + 2) (Int32.toNatClampNeg (gI (pI h (r0 + 1) (Int32.toNatClampNeg (gI h r0 4)) v1) r0 4)) 0) (r0 + 3) (Int32.toNatClampNeg (gI (pI (pI h (r0 + 1) (Int32.toNatClampNeg (gI h r0 4)) v1) (r0 + 2) (Int32.toNatClampNeg (gI (pI h (r0 + 1) (Int32.toNatClampNeg (gI h r0 4)) v1) r0 4)) 0) r0 4)) 0) r0 4)) 0) r0 4 ((gI (pI (pI (pI (pI h (r0 + 1) (Int32.toNatClampNeg (gI h r0 4)) v1) (r0 + 2) (Int32.toNatClampNeg (gI (pI h (r0 + 1) (Int32.toNatClampNeg (gI h r0 4)) v1) r0 4)) 0) (r0 + 3) (Int32.toNatClampNeg (gI (pI (pI h (r0 + 1) (Int32.toNatClampNeg (gI h r0 4)) v1) (r0 + 2) (Int32.toNatClampNeg (gI (pI h (r0 + 1) (Int32.toNatClampNeg (gI h r0 4)) v1) r0 4)) 0) r0 4)) 0) (r0 + 4) (Int32.toNatClampNeg (gI (pI (pI (pI h (r0 + 1) (Int32.toNatClampNeg (gI h r0 4)) v1) (r0 + 2) (Int32.toNatClampNeg (gI (pI h (r0 + 1) (Int32.toNatClampNeg (gI h r0 4)) v1) r0 4)) 0) (r0 + 3) (Int32.toNatClampNeg (gI (pI (pI h (r0 + 1) (Int32.toNatClampNeg (gI h r0 4)) v1) (r0 + 2) (Int32.toNatClampNeg (gI (pI h (r0 + 1) (Int32.toNatClampNeg (gI h r0 4)) v1) r0 4)) 0) r0 4)) 0) r0 4)) 0) r0 4) + 1))))))) ∧ (¬ (gI h r0 4) < 100 → Q (.inl (some (.int 0))) h)) : WM G jX7_addStep [.ref r0, .int v1] h Q :=
  WM.body (ls := [some (.ref r0), some (.int v1)]) rfl (by decide +kernel) rfl (Nat.le_of_ble_eq_true rfl) rfl ((bX7_addStep_0 hi k0 K))
theorem dX7_openBlock_0 : decode cX7_openBlock 0 = .ok (.aload_n 1, 1) := by decide +kernel
theorem dX7_openBlock_1 : decode cX7_openBlock 1 = .ok (.bipush 40, 2) := by decide +kernel
theorem dX7_openBlock_3 : decode cX7_openBlock 3 = .ok (.invokevirtual 119, 3) := by decide +kernel
theorem dX7_openBlock_6 : decode cX7_openBlock 6 = .ok (.ifCond .ne 5, 3) := by decide +kernel
theorem dX7_openBlock_9 : decode cX7_openBlock 9 = .ok (.iconst 0, 1) := by decide +kernel
theorem dX7_openBlock_10 : decode cX7_openBlock 10 = .ok (.ireturn, 1) := by decide +kernel
theorem dX7_openBlock_11 : decode cX7_openBlock 11 = .ok (.aload_n 0, 1) := by decide +kernel
theorem dX7_openBlock_12 : decode cX7_openBlock 12 = .ok (.getfield 33, 3) := by decide +kernel
theorem dX7_openBlock_15 : decode cX7_openBlock 15 = .ok (.iconst 5, 1) := by decide +kernel
theorem dX7_openBlock_16 : decode cX7_openBlock 16 = .ok (.if_icmp .ge 28, 3) := by decide +kernel
theorem dX7_openBlock_19 : decode cX7_openBlock 19 = .ok (.aload_n 0, 1) := by decide +kernel
theorem dX7_openBlock_20 : decode cX7_openBlock 20 = .ok (.getfield 26, 3) := by decide +kernel
theorem dX7_openBlock_23 : decode cX7_openBlock 23 = .ok (.aload_n 0, 1) := by decide +kernel
theorem dX7_openBlock_24 : decode cX7_openBlock 24 = .ok (.getfield 33, 3) := by decide +kernel
theorem dX7_openBlock_27 : decode cX7_openBlock 27 = .ok (.aload_n 0, 1) := by decide +kernel
theorem dX7_openBlock_28 : decode cX7_openBlock 28 = .ok (.getfield 29, 3) := by decide +kernel
theorem dX7_openBlock_31 : decode cX7_openBlock 31 = .ok (.iconst 1, 1) := by decide +kernel
theorem dX7_openBlock_32 : decode cX7_openBlock 32 = .ok (.isub, 1) := by decide +kernel
theorem dX7_openBlock_33 : decode cX7_openBlock 33 = .ok (.iastore, 1) := by decide +kernel
theorem dX7_openBlock_34 : decode cX7_openBlock 34 = .ok (.aload_n 0, 1) := by decide +kernel
theorem dX7_openBlock_35 : decode cX7_openBlock 35 = .ok (.dup, 1) := by decide +kernel
theorem dX7_openBlock_36 : decode cX7_openBlock 36 = .ok (.getfield 33, 3) := by decide +kernel
theorem dX7_openBlock_39 : decode cX7_openBlock 39 = .ok (.iconst 1, 1) := by decide +kernel
theorem dX7_openBlock_40 : decode cX7_openBlock 40 = .ok (.iadd, 1) := by decide +kernel
theorem dX7_openBlock_41 : decode cX7_openBlock 41 = .ok (.putfield 33, 3) := by decide +kernel
theorem dX7_openBlock_44 : decode cX7_openBlock 44 = .ok (.iconst 1, 1) := by decide +kernel
theorem dX7_openBlock_45 : decode cX7_openBlock 45 = .ok (.ireturn, 1) := by decide +kernel
theorem bX7_openBlock_0 {G : GX} {h : mH} {Q : mO → mH → Prop} {r0 : Nat} (hi : Iv h) (k0 : kd r0 = (7, 7)) (K : WM G jX9_takeSign [.ref 1, .int 40] h (Aft G jX7_openBlock 3 [some (.ref r0), none] [] Q)) : Vw G jX7_openBlock 0 [some (.ref r0), some (.ref 1)] [] h Q :=
  s_aload_n dX7_openBlock_0 rfl (s_bipush 40 dX7_openBlock_1 (by decide) (Vw.mask [true, false] (s_callV (As := [.int 40]) dX7_openBlock_3 rfl lvX7_119 ⟨Nat.le_of_ble_eq_true rfl, Nat.le_of_ble_eq_true rfl⟩ (hi.sh rfl rfl) ⟨_, _, by decide, rfl⟩ rfl (Nat.le_of_ble_eq_true rfl) (K))))
theorem bX7_openBlock_6 {G : GX} {h : mH} {Q : mO → mH → Prop} {r0 : Nat} {vs0 : Int32} (hi : Iv h) (k0 : kd r0 = (7, 7)) (K : (¬ vs0 = 0 → ((5 ≤ (gI h r0 6) → Q (.inl (some (.int 1))) h) ∧ (¬ 5 ≤ (gI h r0 6) → (vp_in (gI h r0 6) 5 ∧ Q (.inl (some (.int 1))) (pI (pI h (r0 + 5) (Int32.toNatClampNeg (gI h r0 6)) ((gI h r0 4) - 1)) r0 6 ((gI (pI h (r0 + 5) (Int32.toNatClampNeg (gI h r0 6)) ((gI h r0 4) - 1)) r0 6) + 1)))))) ∧ (vs0 = 0 → Q (.inl (some (.int 0))) h)) : Vw G jX7_openBlock 6 [some (.ref r0), none] [.int vs0] h Q :=
  s_if_ne 11 dX7_openBlock_6 rfl (fun q0 => s_aload_n dX7_openBlock_11 rfl (s_getI dX7_openBlock_12 flX7_33 (Or.inl rfl) (hi.sh k0 rfl) (s_iconst 5 dX7_openBlock_15 (by decide) (s_icmp_ge 44 dX7_openBlock_16 rfl (fun q4 => s_iconst 1 dX7_openBlock_44 (by decide) (s_zreturn dX7_openBlock_45 rfl (by decide) ((K.1 q0).1 q4))) (fun q4 => s_aload_n dX7_openBlock_19 rfl (s_getR (v := .ref (r0 + 5)) dX7_openBlock_20 flX7_26 rfl (hi.sh k0 rfl) (hi.rf (o := r0) (k := 5) (d := 5) k0 rfl) (s_aload_n dX7_openBlock_23 rfl (s_getI dX7_openBlock_24 flX7_33 (Or.inl rfl) (hi.sh k0 rfl) (s_aload_n dX7_openBlock_27 rfl (s_getI dX7_openBlock_28 flX7_29 (Or.inl rfl) (hi.sh k0 rfl) (s_iconst 1 dX7_openBlock_31 (by decide) (s_isub dX7_openBlock_32 (s_iastore dX7_openBlock_33 (hi.sh (kd7_5 k0) rfl) ((K.1 q0).2 q4).1 (s_aload_n dX7_openBlock_34 rfl (s_dupr dX7_openBlock_35 (s_getI dX7_openBlock_36 flX7_33 (Or.inl rfl) (hi.sh k0 rfl) (s_iconst 1 dX7_openBlock_39 (by decide) (s_iadd dX7_openBlock_40 (s_putI dX7_openBlock_41 flX7_33 ff7_6 rfl (hi.sh k0 rfl) (s_iconst 1 dX7_openBlock_44 (by decide) (s_zreturn dX7_openBlock_45 rfl (by decide) ((K.1 q0).2 q4).2))))))))))))))))))))) (fun q0 => s_iconst 0 dX7_openBlock_9 (by decide) (s_zreturn dX7_openBlock_10 rfl (by decide) (K.2 q0)))
theorem eX7_openBlock {G : GX} {h : mH} {Q : mO → mH → Prop} {r0 : Nat} (hi : Iv h) (k0 : kd r0 = (7, 7)) (K : WM G jX9_takeSign [.ref 1, .int 40] h (Aft G jX7_openBlock 3 [some (.ref r0), none] [] Q)) : WM G jX7_openBlock [.ref r0, .ref 1] h Q :=
  WM.body (ls := [some (.ref r0), some (.ref 1)]) rfl (by decide +kernel) rfl (Nat.le_of_ble_eq_true rfl) rfl ((bX7_openBlock_0 hi k0 K))
theorem dX7_closeBlock_0 : decode cX7_closeBlock 0 = .ok (.aload_n 1, 1) := by decide +kernel
theorem dX7_closeBlock_1 : decode cX7_closeBlock 1 = .ok (.invokevirtual 62, 3) := by decide +kernel
theorem dX7_closeBlock_4 : decode cX7_closeBlock 4 = .ok (.aload_n 0, 1) := by decide +kernel
theorem dX7_closeBlock_5 : decode cX7_closeBlock 5 = .ok (.dup, 1) := by decide +kernel
theorem dX7_closeBlock_6 : decode cX7_closeBlock 6 = .ok (.getfield 33, 3) := by decide +kernel
theorem dX7_closeBlock_9 : decode cX7_closeBlock 9 = .ok (.iconst 1, 1) := by decide +kernel
theorem dX7_closeBlock_10 : decode cX7_closeBlock 10 = .ok (.isub, 1) := by decide +kernel
theorem dX7_closeBlock_11 : decode cX7_closeBlock 11 = .ok (.putfield 33, 3) := by decide +kernel
theorem dX7_closeBlock_14 : decode cX7_closeBlock 14 = .ok (.aload_n 0, 1) := by decide +kernel
theorem dX7_closeBlock_15 : decode cX7_closeBlock 15 = .ok (.getfield 26, 3) := by decide +kernel
theorem dX7_closeBlock_18 : decode cX7_closeBlock 18 = .ok (.aload_n 0, 1) := by decide +kernel
theorem dX7_closeBlock_19 : decode cX7_closeBlock 19 = .ok (.getfield 33, 3) := by decide +kernel
theorem dX7_closeBlock_22 : decode cX7_closeBlock 22 = .ok (.iaload, 1) := by decide +kernel
theorem dX7_closeBlock_23 : decode cX7_closeBlock 23 = .ok (.istore_n 2, 1) := by decide +kernel
theorem dX7_closeBlock_24 : decode cX7_closeBlock 24 = .ok (.aload_n 0, 1) := by decide +kernel
theorem dX7_closeBlock_25 : decode cX7_closeBlock 25 = .ok (.getfield 13, 3) := by decide +kernel
theorem dX7_closeBlock_28 : decode cX7_closeBlock 28 = .ok (.iload_n 2, 1) := by decide +kernel
theorem dX7_closeBlock_29 : decode cX7_closeBlock 29 = .ok (.iaload, 1) := by decide +kernel
theorem dX7_closeBlock_30 : decode cX7_closeBlock 30 = .ok (.iconst 5, 1) := by decide +kernel
theorem dX7_closeBlock_31 : decode cX7_closeBlock 31 = .ok (.if_icmp .ne 7, 3) := by decide +kernel
theorem dX7_closeBlock_34 : decode cX7_closeBlock 34 = .ok (.iconst 1, 1) := by decide +kernel
theorem dX7_closeBlock_35 : decode cX7_closeBlock 35 = .ok (.goto 4, 3) := by decide +kernel
theorem dX7_closeBlock_38 : decode cX7_closeBlock 38 = .ok (.iconst 0, 1) := by decide +kernel
theorem dX7_closeBlock_39 : decode cX7_closeBlock 39 = .ok (.istore_n 3, 1) := by decide +kernel
theorem dX7_closeBlock_40 : decode cX7_closeBlock 40 = .ok (.aload_n 0, 1) := by decide +kernel
theorem dX7_closeBlock_41 : decode cX7_closeBlock 41 = .ok (.getfield 13, 3) := by decide +kernel
theorem dX7_closeBlock_44 : decode cX7_closeBlock 44 = .ok (.iload_n 2, 1) := by decide +kernel
theorem dX7_closeBlock_45 : decode cX7_closeBlock 45 = .ok (.iaload, 1) := by decide +kernel
theorem dX7_closeBlock_46 : decode cX7_closeBlock 46 = .ok (.bipush 6, 2) := by decide +kernel
theorem dX7_closeBlock_48 : decode cX7_closeBlock 48 = .ok (.if_icmp .ne 16, 3) := by decide +kernel
theorem dX7_closeBlock_51 : decode cX7_closeBlock 51 = .ok (.aload_n 1, 1) := by decide +kernel
theorem dX7_closeBlock_52 : decode cX7_closeBlock 52 = .ok (.ldc 122, 2) := by decide +kernel
theorem dX7_closeBlock_54 : decode cX7_closeBlock 54 = .ok (.invokevirtual 81, 3) := by decide +kernel
theorem dX7_closeBlock_57 : decode cX7_closeBlock 57 = .ok (.ifCond .eq 7, 3) := by decide +kernel
theorem dX7_closeBlock_60 : decode cX7_closeBlock 60 = .ok (.iconst 1, 1) := by decide +kernel
theorem dX7_closeBlock_61 : decode cX7_closeBlock 61 = .ok (.goto 4, 3) := by decide +kernel
theorem dX7_closeBlock_64 : decode cX7_closeBlock 64 = .ok (.iconst 0, 1) := by decide +kernel
theorem dX7_closeBlock_65 : decode cX7_closeBlock 65 = .ok (.istore 4, 2) := by decide +kernel
theorem dX7_closeBlock_67 : decode cX7_closeBlock 67 = .ok (.iload_n 3, 1) := by decide +kernel
theorem dX7_closeBlock_68 : decode cX7_closeBlock 68 = .ok (.ifCond .eq 12, 3) := by decide +kernel
theorem dX7_closeBlock_71 : decode cX7_closeBlock 71 = .ok (.aload_n 0, 1) := by decide +kernel
theorem dX7_closeBlock_72 : decode cX7_closeBlock 72 = .ok (.bipush 7, 2) := by decide +kernel
theorem dX7_closeBlock_74 : decode cX7_closeBlock 74 = .ok (.invokevirtual 59, 3) := by decide +kernel
theorem dX7_closeBlock_77 : decode cX7_closeBlock 77 = .ok (.ifCond .eq 17, 3) := by decide +kernel
theorem dX7_closeBlock_80 : decode cX7_closeBlock 80 = .ok (.iload 4, 2) := by decide +kernel
theorem dX7_closeBlock_82 : decode cX7_closeBlock 82 = .ok (.ifCond .eq 18, 3) := by decide +kernel
theorem dX7_closeBlock_85 : decode cX7_closeBlock 85 = .ok (.aload_n 0, 1) := by decide +kernel
theorem dX7_closeBlock_86 : decode cX7_closeBlock 86 = .ok (.bipush 8, 2) := by decide +kernel
theorem dX7_closeBlock_88 : decode cX7_closeBlock 88 = .ok (.invokevirtual 59, 3) := by decide +kernel
theorem dX7_closeBlock_91 : decode cX7_closeBlock 91 = .ok (.ifCond .ne 9, 3) := by decide +kernel
theorem dX7_closeBlock_94 : decode cX7_closeBlock 94 = .ok (.aload_n 1, 1) := by decide +kernel
theorem dX7_closeBlock_95 : decode cX7_closeBlock 95 = .ok (.iconst 2, 1) := by decide +kernel
theorem dX7_closeBlock_96 : decode cX7_closeBlock 96 = .ok (.invokevirtual 51, 3) := by decide +kernel
theorem dX7_closeBlock_99 : decode cX7_closeBlock 99 = .ok (.ireturn, 1) := by decide +kernel
theorem dX7_closeBlock_100 : decode cX7_closeBlock 100 = .ok (.iload_n 3, 1) := by decide +kernel
theorem dX7_closeBlock_101 : decode cX7_closeBlock 101 = .ok (.ifCond .eq 29, 3) := by decide +kernel
theorem dX7_closeBlock_104 : decode cX7_closeBlock 104 = .ok (.aload_n 0, 1) := by decide +kernel
theorem dX7_closeBlock_105 : decode cX7_closeBlock 105 = .ok (.getfield 23, 3) := by decide +kernel
theorem dX7_closeBlock_108 : decode cX7_closeBlock 108 = .ok (.aload_n 0, 1) := by decide +kernel
theorem dX7_closeBlock_109 : decode cX7_closeBlock 109 = .ok (.getfield 29, 3) := by decide +kernel
theorem dX7_closeBlock_112 : decode cX7_closeBlock 112 = .ok (.iconst 1, 1) := by decide +kernel
theorem dX7_closeBlock_113 : decode cX7_closeBlock 113 = .ok (.isub, 1) := by decide +kernel
theorem dX7_closeBlock_114 : decode cX7_closeBlock 114 = .ok (.iload_n 2, 1) := by decide +kernel
theorem dX7_closeBlock_115 : decode cX7_closeBlock 115 = .ok (.iconst 1, 1) := by decide +kernel
theorem dX7_closeBlock_116 : decode cX7_closeBlock 116 = .ok (.iadd, 1) := by decide +kernel
theorem dX7_closeBlock_117 : decode cX7_closeBlock 117 = .ok (.iastore, 1) := by decide +kernel
theorem dX7_closeBlock_118 : decode cX7_closeBlock 118 = .ok (.aload_n 0, 1) := by decide +kernel
theorem dX7_closeBlock_119 : decode cX7_closeBlock 119 = .ok (.getfield 17, 3) := by decide +kernel
theorem dX7_closeBlock_122 : decode cX7_closeBlock 122 = .ok (.aload_n 0, 1) := by decide +kernel
theorem dX7_closeBlock_123 : decode cX7_closeBlock 123 = .ok (.getfield 29, 3) := by decide +kernel
theorem dX7_closeBlock_126 : decode cX7_closeBlock 126 = .ok (.iconst 1, 1) := by decide +kernel
theorem dX7_closeBlock_127 : decode cX7_closeBlock 127 = .ok (.isub, 1) := by decide +kernel
theorem dX7_closeBlock_128 : decode cX7_closeBlock 128 = .ok (.iload_n 2, 1) := by decide +kernel
theorem dX7_closeBlock_129 : decode cX7_closeBlock 129 = .ok (.iastore, 1) := by decide +kernel
theorem dX7_closeBlock_130 : decode cX7_closeBlock 130 = .ok (.aload_n 0, 1) := by decide +kernel
theorem dX7_closeBlock_131 : decode cX7_closeBlock 131 = .ok (.getfield 23, 3) := by decide +kernel
theorem dX7_closeBlock_134 : decode cX7_closeBlock 134 = .ok (.iload_n 2, 1) := by decide +kernel
theorem dX7_closeBlock_135 : decode cX7_closeBlock 135 = .ok (.aload_n 0, 1) := by decide +kernel
theorem dX7_closeBlock_136 : decode cX7_closeBlock 136 = .ok (.getfield 29, 3) := by decide +kernel
theorem dX7_closeBlock_139 : decode cX7_closeBlock 139 = .ok (.iastore, 1) := by decide +kernel
theorem dX7_closeBlock_140 : decode cX7_closeBlock 140 = .ok (.iload 4, 2) := by decide +kernel
theorem dX7_closeBlock_142 : decode cX7_closeBlock 142 = .ok (.ifCond .eq 13, 3) := by decide +kernel
theorem dX7_closeBlock_145 : decode cX7_closeBlock 145 = .ok (.aload_n 1, 1) := by decide +kernel
theorem dX7_closeBlock_146 : decode cX7_closeBlock 146 = .ok (.invokevirtual 62, 3) := by decide +kernel
theorem dX7_closeBlock_149 : decode cX7_closeBlock 149 = .ok (.aload_n 0, 1) := by decide +kernel
theorem dX7_closeBlock_150 : decode cX7_closeBlock 150 = .ok (.aload_n 1, 1) := by decide +kernel
theorem dX7_closeBlock_151 : decode cX7_closeBlock 151 = .ok (.invokevirtual 73, 3) := by decide +kernel
theorem dX7_closeBlock_154 : decode cX7_closeBlock 154 = .ok (.ireturn, 1) := by decide +kernel
theorem dX7_closeBlock_155 : decode cX7_closeBlock 155 = .ok (.iconst 1, 1) := by decide +kernel
theorem dX7_closeBlock_156 : decode cX7_closeBlock 156 = .ok (.ireturn, 1) := by decide +kernel
theorem bX7_closeBlock_0 {G : GX} {h : mH} {Q : mO → mH → Prop} {r0 : Nat} (hi : Iv h) (k0 : kd r0 = (7, 7)) (K : WM G jX9_advance [.ref 1] h (Aft G jX7_closeBlock 1 [some (.ref r0), some (.ref 1), none, none, none] [] Q)) : Vw G jX7_closeBlock 0 [some (.ref r0), some (.ref 1), none, none, none] [] h Q :=
  s_aload_n dX7_closeBlock_0 rfl (s_callV (As := []) dX7_closeBlock_1 rfl lvX7_62 ⟨Nat.le_of_ble_eq_true rfl, Nat.le_of_ble_eq_true rfl⟩ (hi.sh rfl rfl) ⟨_, _, by decide, rfl⟩ rfl (Nat.le_of_ble_eq_true rfl) (K))
theorem bX7_closeBlock_4 {G : GX} {h : mH} {Q : mO → mH → Prop} {r0 : Nat} (hi : Iv h) (k0 : kd r0 = (7, 7)) (K : vp_in (gI (pI h r0 6 ((gI h r0 6) - 1)) r0 6) 5 ∧ (vp_in (gI (pI h r0 6 ((gI h r0 6) - 1)) (r0 + 5) (Int32.toNatClampNeg (gI (pI h r0 6 ((gI h r0 6) - 1)) r0 6))) 100 ∧ ((¬ (gI (pI h r0 6 ((gI h r0 6) - 1)) (r0 + 1) (Int32.toNatClampNeg (gI (pI h r0 6 ((gI h r0 6) - 1)) (r0 + 5) (Int32.toNatClampNeg (gI (pI h r0 6 ((gI h r0 6) - 1)) r0 6))))) = 5 → (vp_in (gI (pI h r0 6 ((gI h r0 6) - 1)) (r0 + 5) (Int32.toNatClampNeg (gI (pI h r0 6 ((gI h r0 6) - 1)) r0 6))) 100 ∧ ((¬ (gI (pI h r0 6 ((gI h r0 6) - 1)) (r0 + 1) (Int32.toNatClampNeg (gI (pI h r0 6 ((gI h r0 6) - 1)) (r0 + 5) (Int32.toNatClampNeg (gI (pI h r0 6 ((gI h r0 6) - 1)) r0 6))))) = 6 → Vw G jX7_closeBlock 64 [some (.ref r0), some (.ref 1), some (.int (gI (pI h r0 6 ((gI h r0 6) - 1)) (r0 + 5) (Int32.toNatClampNeg (gI (pI h r0 6 ((gI h r0 6) - 1)) r0 6)))), some (.int 0), none] [] (pI h r0 6 ((gI h r0 6) - 1)) Q) ∧ ((gI (pI h r0 6 ((gI h r0 6) - 1)) (r0 + 1) (Int32.toNatClampNeg (gI (pI h r0 6 ((gI h r0 6) - 1)) (r0 + 5) (Int32.toNatClampNeg (gI (pI h r0 6 ((gI h r0 6) - 1)) r0 6))))) = 6 → WM G jX9_isWord [.ref 1, .float (UInt32.ofNat 7)] (pI h r0 6 ((gI h r0 6) - 1)) (Aft G jX7_closeBlock 54 [some (.ref r0), some (.ref 1), some (.int (gI (pI h r0 6 ((gI h r0 6) - 1)) (r0 + 5) (Int32.toNatClampNeg (gI (pI h r0 6 ((gI h r0 6) - 1)) r0 6)))), some (.int 0), none] [] Q))))) ∧ ((gI (pI h r0 6 ((gI h r0 6) - 1)) (r0 + 1) (Int32.toNatClampNeg (gI (pI h r0 6 ((gI h r0 6) - 1)) (r0 + 5) (Int32.toNatClampNeg (gI (pI h r0 6 ((gI h r0 6) - 1)) r0 6))))) = 5 → (vp_in (gI (pI h r0 6 ((gI h r0 6) - 1)) (r0 + 5) (Int32.toNatClampNeg (gI (pI h r0 6 ((gI h r0 6) - 1)) r0 6))) 100 ∧ ((¬ (gI (pI h r0 6 ((gI h r0 6) - 1)) (r0 + 1) (Int32.toNatClampNeg (gI (pI h r0 6 ((gI h r0 6) - 1)) (r0 + 5) (Int32.toNatClampNeg (gI (pI h r0 6 ((gI h r0 6) - 1)) r0 6))))) = 6 → Vw G jX7_closeBlock 64 [some (.ref r0), some (.ref 1), some (.int (gI (pI h r0 6 ((gI h r0 6) - 1)) (r0 + 5) (Int32.toNatClampNeg (gI (pI h r0 6 ((gI h r0 6) - 1)) r0 6)))), some (.int 1), none] [] (pI h r0 6 ((gI h r0 6) - 1)) Q) ∧ ((gI (pI h r0 6 ((gI h r0 6) - 1)) (r0 + 1) (Int32.toNatClampNeg (gI (pI h r0 6 ((gI h r0 6) - 1)) (r0 + 5) (Int32.toNatClampNeg (gI (pI h r0 6 ((gI h r0 6) - 1)) r0 6))))) = 6 → WM G jX9_isWord [.ref 1, .float (UInt32.ofNat 7)] (pI h r0 6 ((gI h r0 6) - 1)) (Aft G jX7_closeBlock 54 [some (.ref r0), some (.ref 1), some (.int (gI (pI h r0 6 ((gI h r0 6) - 1)) (r0 + 5) (Int32.toNatClampNeg (gI (pI h r0 6 ((gI h r0 6) - 1)) r0 6)))), some (.int 1), none] [] Q)))))))) : Vw G jX7_closeBlock 4 [some (.ref r0), some (.ref 1), none, none, none] [] h Q :=
  s_aload_n dX7_closeBlock_4 rfl (s_dupr dX7_closeBlock_5 (s_getI dX7_closeBlock_6 flX7_33 (Or.inl rfl) (hi.sh k0 rfl) (s_iconst 1 dX7_closeBlock_9 (by decide) (s_isub dX7_closeBlock_10 (s_putI dX7_closeBlock_11 flX7_33 ff7_6 rfl (hi.sh k0 rfl) (s_aload_n dX7_closeBlock_14 rfl (s_getR (v := .ref (r0 + 5)) dX7_closeBlock_15 flX7_26 rfl (hi.sh k0 rfl) (hi.rf (o := r0) (k := 5) (d := 5) k0 rfl) (s_aload_n dX7_closeBlock_18 rfl (s_getI dX7_closeBlock_19 flX7_33 (Or.inl rfl) (hi.sh k0 rfl) (s_iaload dX7_closeBlock_22 (hi.sh (kd7_5 k0) rfl) K.1 (s_istore_n dX7_closeBlock_23 (Nat.le_of_ble_eq_true rfl) rfl (s_aload_n dX7_closeBlock_24 rfl (s_getR (v := .ref (r0 + 1)) dX7_closeBlock_25 flX7_13 rfl (hi.sh k0 rfl) (hi.rf (o := r0) (k := 0) (d := 1) k0 rfl) (s_iload_n dX7_closeBlock_28 rfl (s_iaload dX7_closeBlock_29 (hi.sh (kd7_0 k0) rfl) K.2.1 (s_iconst 5 dX7_closeBlock_30 (by decide) (s_icmp_ne 38 dX7_closeBlock_31 rfl (fun q17 => s_iconst 0 dX7_closeBlock_38 (by decide) (s_istore_n dX7_closeBlock_39 (Nat.le_of_ble_eq_true rfl) rfl (s_aload_n dX7_closeBlock_40 rfl (s_getR (v := .ref (r0 + 1)) dX7_closeBlock_41 flX7_13 rfl (hi.sh k0 rfl) (hi.rf (o := r0) (k := 0) (d := 1) k0 rfl) (s_iload_n dX7_closeBlock_44 rfl (s_iaload dX7_closeBlock_45 (hi.sh (kd7_0 k0) rfl) (K.2.2.1 q17).1 (s_bipush 6 dX7_closeBlock_46 (by decide) (s_icmp_ne 64 dX7_closeBlock_48 rfl (fun q25 => ((K.2.2.1 q17).2.1 q25)) (fun q25 => s_aload_n dX7_closeBlock_51 rfl (s_ldcS (n := 7) dX7_closeBlock_52 rfl (by decide) (s_callV (As := [.float (UInt32.ofNat 7)]) dX7_closeBlock_54 rfl lvX7_81 ⟨Nat.le_of_ble_eq_true rfl, Nat.le_of_ble_eq_true rfl⟩ (hi.sh rfl rfl) ⟨_, _, by decide, rfl⟩ rfl (Nat.le_of_ble_eq_true rfl) (((K.2.2.1 q17).2.2 q25))))))))))))) (fun q17 => s_iconst 1 dX7_closeBlock_34 (by decide) (s_goto 39 dX7_closeBlock_35 rfl (s_istore_n dX7_closeBlock_39 (Nat.le_of_ble_eq_true rfl) rfl (s_aload_n dX7_closeBlock_40 rfl (s_getR (v := .ref (r0 + 1)) dX7_closeBlock_41 flX7_13 rfl (hi.sh k0 rfl) (hi.rf (o := r0) (k := 0) (d := 1) k0 rfl) (s_iload_n dX7_closeBlock_44 rfl (s_iaload dX7_closeBlock_45 (hi.sh (kd7_0 k0) rfl) (K.2.2.2 q17).1 (s_bipush 6 dX7_closeBlock_46 (by decide) (s_icmp_ne 64 dX7_closeBlock_48 rfl (fun q26 => ((K.2.2.2 q17).2.1 q26)) (fun q26 => s_aload_n dX7_closeBlock_51 rfl (s_ldcS (n := 7) dX7_closeBlock_52 rfl (by decide) (s_callV (As := [.float (UInt32.ofNat 7)]) dX7_closeBlock_54 rfl lvX7_81 ⟨Nat.le_of_ble_eq_true rfl, Nat.le_of_ble_eq_true rfl⟩ (hi.sh rfl rfl) ⟨_, _, by decide, rfl⟩ rfl (Nat.le_of_ble_eq_true rfl) (((K.2.2.2 q17).2.2 q26)))))))))))))))))))))))))))))))
theorem bX7_closeBlock_57 {G : GX} {h : mH} {Q : mO → mH → Prop} {r0 : Nat} {v2 : Int32} {v3 : Int32} {vs0 : Int32} (hi : Iv h) (k0 : kd r0 = (7, 7)) (K : (vs0 = 0 → Vw G jX7_closeBlock 64 [some (.ref r0), some (.ref 1), some (.int v2), some (.int v3), none] [] h Q) ∧ (¬ vs0 = 0 → ((v3 = 0 → Vw G jX7_closeBlock 80 [some (.ref r0), some (.ref 1), some (.int v2), some (.int v3), some (.int 1)] [] h Q) ∧ (¬ v3 = 0 → WM G jX7_addStep [.ref r0, .int 7] h (Aft G jX7_closeBlock 74 [some (.ref r0), some (.ref 1), some (.int v2), some (.int v3), some (.int 1)] [] Q))))) : Vw G jX7_closeBlock 57 [some (.ref r0), some (.ref 1), some (.int v2), some (.int v3), none] [.int vs0] h Q :=
  s_if_eq 64 dX7_closeBlock_57 rfl (fun q0 => (K.1 q0)) (fun q0 => s_iconst 1 dX7_closeBlock_60 (by decide) (s_goto 65 dX7_closeBlock_61 rfl (s_istore dX7_closeBlock_65 (Nat.le_of_ble_eq_true rfl) rfl (s_iload_n dX7_closeBlock_67 rfl (s_if_eq 80 dX7_closeBlock_68 rfl (fun q5 => ((K.2 q0).1 q5)) (fun q5 => s_aload_n dX7_closeBlock_71 rfl (s_bipush 7 dX7_closeBlock_72 (by decide) (s_callV (As := [.int 7]) dX7_closeBlock_74 rfl lvX7_59 ⟨Nat.le_of_ble_eq_true rfl, Nat.le_of_ble_eq_true rfl⟩ (hi.sh k0 rfl) ⟨_, _, by decide, rfl⟩ rfl (Nat.le_of_ble_eq_true rfl) (((K.2 q0).2 q5))))))))))
theorem bX7_closeBlock_64 {G : GX} {h : mH} {Q : mO → mH → Prop} {r0 : Nat} {v2 : Int32} {v3 : Int32} (hi : Iv h) (k0 : kd r0 = (7, 7)) (K : (v3 = 0 → Vw G jX7_closeBlock 80 [some (.ref r0), some (.ref 1), some (.int v2), some (.int v3), some (.int 0)] [] h Q) ∧ (¬ v3 = 0 → WM G jX7_addStep [.ref r0, .int 7] h (Aft G jX7_closeBlock 74 [some (.ref r0), some (.ref 1), some (.int v2), some (.int v3), some (.int 0)] [] Q))) : Vw G jX7_closeBlock 64 [some (.ref r0), some (.ref 1), some (.int v2), some (.int v3), none] [] h Q :=
  s_iconst 0 dX7_closeBlock_64 (by decide) (s_istore dX7_closeBlock_65 (Nat.le_of_ble_eq_true rfl) rfl (s_iload_n dX7_closeBlock_67 rfl (s_if_eq 80 dX7_closeBlock_68 rfl (fun q3 => (K.1 q3)) (fun q3 => s_aload_n dX7_closeBlock_71 rfl (s_bipush 7 dX7_closeBlock_72 (by decide) (s_callV (As := [.int 7]) dX7_closeBlock_74 rfl lvX7_59 ⟨Nat.le_of_ble_eq_true rfl, Nat.le_of_ble_eq_true rfl⟩ (hi.sh k0 rfl) ⟨_, _, by decide, rfl⟩ rfl (Nat.le_of_ble_eq_true rfl) ((K.2 q3))))))))
theorem bX7_closeBlock_77 {G : GX} {h : mH} {Q : mO → mH → Prop} {r0 : Nat} {v2 : Int32} {v3 : Int32} {v4 : Int32} {vs0 : Int32} (hi : Iv h) (k0 : kd r0 = (7, 7)) (K : (vs0 = 0 → Vw G jX7_closeBlock 94 [none, some (.ref 1), none, none, none] [] h Q) ∧ (¬ vs0 = 0 → Vw G jX7_closeBlock 80 [some (.ref r0), some (.ref 1), some (.int v2), some (.int v3), some (.int v4)] [] h Q)) : Vw G jX7_closeBlock 77 [some (.ref r0), some (.ref 1), some (.int v2), some (.int v3), some (.int v4)] [.int vs0] h Q :=
  s_if_eq 94 dX7_closeBlock_77 rfl (fun q0 => Vw.mask [false, true, false, false, false] ((K.1 q0))) (fun q0 => (K.2 q0))
theorem bX7_closeBlock_80 {G : GX} {h : mH} {Q : mO → mH → Prop} {r0 : Nat} {v2 : Int32} {v3 : Int32} {v4 : Int32} (hi : Iv h) (k0 : kd r0 = (7, 7)) (K : (v4 = 0 → Vw G jX7_closeBlock 100 [some (.ref r0), some (.ref 1), some (.int v2), some (.int v3), some (.int v4)] [] h Q) ∧ (¬ v4 = 0 → WM G jX7_addStep [.ref r0, .int 8] h (Aft G jX7_closeBlock 88 [some (.ref r0), some (.ref 1), some (.int v2), some (.int v3), some (.int v4)] [] Q))) : Vw G jX7_closeBlock 80 [some (.ref r0), some (.ref 1), some (.int v2), some (.int v3), some (.int v4)] [] h Q :=
  s_iload dX7_closeBlock_80 rfl (s_if_eq 100 dX7_closeBlock_82 rfl (fun q1 => (K.1 q1)) (fun q1 => s_aload_n dX7_closeBlock_85 rfl (s_bipush 8 dX7_closeBlock_86 (by decide) (s_callV (As := [.int 8]) dX7_closeBlock_88 rfl lvX7_59 ⟨Nat.le_of_ble_eq_true rfl, Nat.le_of_ble_eq_true rfl⟩ (hi.sh k0 rfl) ⟨_, _, by decide, rfl⟩ rfl (Nat.le_of_ble_eq_true rfl) ((K.2 q1))))))
theorem bX7_closeBlock_91 {G : GX} {h : mH} {Q : mO → mH → Prop} {r0 : Nat} {v2 : Int32} {v3 : Int32} {v4 : Int32} {vs0 : Int32} (hi : Iv h) (k0 : kd r0 = (7, 7)) (K : (¬ vs0 = 0 → Vw G jX7_closeBlock 100 [some (.ref r0), some (.ref 1), some (.int v2), some (.int v3), some (.int v4)] [] h Q) ∧ (vs0 = 0 → Vw G jX7_closeBlock 94 [none, some (.ref 1), none, none, none] [] h Q)) : Vw G jX7_closeBlock 91 [some (.ref r0), some (.ref 1), some (.int v2), some (.int v3), some (.int v4)] [.int vs0] h Q :=
  s_if_ne 100 dX7_closeBlock_91 rfl (fun q0 => (K.1 q0)) (fun q0 => Vw.mask [false, true, false, false, false] ((K.2 q0)))
theorem bX7_closeBlock_94 {G : GX} {h : mH} {Q : mO → mH → Prop} (hi : Iv h) (K : WM G jX9_refuse [.ref 1, .int 2] h (Aft G jX7_closeBlock 96 [none, none, none, none, none] [] Q)) : Vw G jX7_closeBlock 94 [none, some (.ref 1), none, none, none] [] h Q :=
  s_aload_n dX7_closeBlock_94 rfl (s_iconst 2 dX7_closeBlock_95 (by decide) (Vw.mask [false, false, false, false, false] (s_callV (As := [.int 2]) dX7_closeBlock_96 rfl lvX7_51 ⟨Nat.le_of_ble_eq_true rfl, Nat.le_of_ble_eq_true rfl⟩ (hi.sh rfl rfl) ⟨_, _, by decide, rfl⟩ rfl (Nat.le_of_ble_eq_true rfl) (K))))
theorem bX7_closeBlock_99 {G : GX} {h : mH} {Q : mO → mH → Prop} {vs0 : Int32} (hi : Iv h) (K : (vs0 = 0 ∨ vs0 = 1) ∧ Q (.inl (some (.int vs0))) h) : Vw G jX7_closeBlock 99 [none, none, none, none, none] [.int vs0] h Q :=
  s_zreturn dX7_closeBlock_99 rfl K.1 K.2
theorem bX7_closeBlock_100 {G : GX} {h : mH} {Q : mO → mH → Prop} {r0 : Nat} {v2 : Int32} {v3 : Int32} {v4 : Int32} (hi : Iv h) (k0 : kd r0 = (7, 7)) (K : (v3 = 0 → Vw G jX7_closeBlock 130 [some (.ref r0), some (.ref 1), some (.int v2), none, some (.int v4)] [] h Q) ∧ (¬ v3 = 0 → (vp_in ((gI h r0 4) - 1) 100 ∧ (vp_in ((gI (pI h (r0 + 4) (Int32.toNatClampNeg ((gI h r0 4) - 1)) (v2 + 1)) r0 4) - 1) 100 ∧ Vw G jX7_closeBlock 130 [some (.ref r0), some (.ref 1), some (.int v2), none, some (.int v4)] [] (pI (pI h (r0 + 4) (Int32.toNatClampNeg ((gI h r0 4) - 1)) (v2 + 1)) (r0 + 2) (Int32.toNatClampNeg ((gI (pI h (r0 + 4) (Int32.toNatClampNeg ((gI h r0 4) - 1)) (v2 + 1)) r0 4) - 1)) v2) Q)))) : Vw G jX7_closeBlock 100 [some (.ref r0), some (.ref 1), some (.int v2), some (.int v3), some (.int v4)] [] h Q :=
  s_iload_n dX7_closeBlock_100 rfl (s_if_eq 130 dX7_closeBlock_101 rfl (fun q1 => Vw.mask [true, true, true, false, true] ((K.1 q1))) (fun q1 => s_aload_n dX7_closeBlock_104 rfl (s_getR (v := .ref (r0 + 4)) dX7_closeBlock_105 flX7_23 rfl (hi.sh k0 rfl) (hi.rf (o := r0) (k := 3) (d := 4) k0 rfl) (s_aload_n dX7_closeBlock_108 rfl (s_getI dX7_closeBlock_109 flX7_29 (Or.inl rfl) (hi.sh k0 rfl) (s_iconst 1 dX7_closeBlock_112 (by decide) (s_isub dX7_closeBlock_113 (s_iload_n dX7_closeBlock_114 rfl (s_iconst 1 dX7_closeBlock_115 (by decide) (s_iadd dX7_closeBlock_116 (s_iastore dX7_closeBlock_117 (hi.sh (kd7_3 k0) rfl) (K.2 q1).1 (s_aload_n dX7_closeBlock_118 rfl (s_getR (v := .ref (r0 + 2)) dX7_closeBlock_119 flX7_17 rfl (hi.sh k0 rfl) (hi.rf (o := r0) (k := 1) (d := 2) k0 rfl) (s_aload_n dX7_closeBlock_122 rfl (s_getI dX7_closeBlock_123 flX7_29 (Or.inl rfl) (hi.sh k0 rfl) (s_iconst 1 dX7_closeBlock_126 (by decide) (s_isub dX7_closeBlock_127 (s_iload_n dX7_closeBlock_128 rfl (s_iastore dX7_closeBlock_129 (hi.sh (kd7_1 k0) rfl) (K.2 q1).2.1 (Vw.mask [true, true, true, false, true] ((K.2 q1).2.2)))))))))))))))))))))
theorem bX7_closeBlock_130 {G : GX} {h : mH} {Q : mO → mH → Prop} {r0 : Nat} {v2 : Int32} {v4 : Int32} (hi : Iv h) (k0 : kd r0 = (7, 7)) (K : vp_in v2 100 ∧ ((v4 = 0 → Q (.inl (some (.int 1))) (pI h (r0 + 4) (Int32.toNatClampNeg v2) (gI h r0 4))) ∧ (¬ v4 = 0 → WM G jX9_advance [.ref 1] (pI h (r0 + 4) (Int32.toNatClampNeg v2) (gI h r0 4)) (Aft G jX7_closeBlock 146 [some (.ref r0), some (.ref 1), none, none, none] [] Q)))) : Vw G jX7_closeBlock 130 [some (.ref r0), some (.ref 1), some (.int v2), none, some (.int v4)] [] h Q :=
  s_aload_n dX7_closeBlock_130 rfl (s_getR (v := .ref (r0 + 4)) dX7_closeBlock_131 flX7_23 rfl (hi.sh k0 rfl) (hi.rf (o := r0) (k := 3) (d := 4) k0 rfl) (s_iload_n dX7_closeBlock_134 rfl (s_aload_n dX7_closeBlock_135 rfl (s_getI dX7_closeBlock_136 flX7_29 (Or.inl rfl) (hi.sh k0 rfl) (s_iastore dX7_closeBlock_139 (hi.sh (kd7_3 k0) rfl) K.1 (s_iload dX7_closeBlock_140 rfl (s_if_eq 155 dX7_closeBlock_142 rfl (fun q7 => s_iconst 1 dX7_closeBlock_155 (by decide) (s_zreturn dX7_closeBlock_156 rfl (by decide) (K.2.1 q7))) (fun q7 => s_aload_n dX7_closeBlock_145 rfl (Vw.mask [true, true, false, false, false] (s_callV (As := []) dX7_closeBlock_146 rfl lvX7_62 ⟨Nat.le_of_ble_eq_true rfl, Nat.le_of_ble_eq_true rfl⟩ (hi.sh rfl rfl) ⟨_, _, by decide, rfl⟩ rfl (Nat.le_of_ble_eq_true rfl) ((K.2.2 q7))))))))))))
theorem bX7_closeBlock_149 {G : GX} {h : mH} {Q : mO → mH → Prop} {r0 : Nat} (hi : Iv h) (k0 : kd r0 = (7, 7)) (K : WM G jX7_openBlock [.ref r0, .ref 1] h (Aft G jX7_closeBlock 151 [none, none, none, none, none] [] Q)) : Vw G jX7_closeBlock 149 [some (.ref r0), some (.ref 1), none, none, none] [] h Q :=
  s_aload_n dX7_closeBlock_149 rfl (s_aload_n dX7_closeBlock_150 rfl (Vw.mask [false, false, false, false, false] (s_callV (As := [.ref 1]) dX7_closeBlock_151 rfl lvX7_73 ⟨Nat.le_of_ble_eq_true rfl, Nat.le_of_ble_eq_true rfl⟩ (hi.sh k0 rfl) ⟨_, _, by decide, rfl⟩ rfl (Nat.le_of_ble_eq_true rfl) (K))))
theorem bX7_closeBlock_154 {G : GX} {h : mH} {Q : mO → mH → Prop} {vs0 : Int32} (hi : Iv h) (K : (vs0 = 0 ∨ vs0 = 1) ∧ Q (.inl (some (.int vs0))) h) : Vw G jX7_closeBlock 154 [none, none, none, none, none] [.int vs0] h Q :=
  s_zreturn dX7_closeBlock_154 rfl K.1 K.2
theorem eX7_closeBlock {G : GX} {h : mH} {Q : mO → mH → Prop} {r0 : Nat} (hi : Iv h) (k0 : kd r0 = (7, 7)) (K : WM G jX9_advance [.ref 1] h (Aft G jX7_closeBlock 1 [some (.ref r0), some (.ref 1), none, none, none] [] Q)) : WM G jX7_closeBlock [.ref r0, .ref 1] h Q :=
  WM.body (ls := [some (.ref r0), some (.ref 1), none, none, none]) rfl (by decide +kernel) rfl (Nat.le_of_ble_eq_true rfl) rfl ((bX7_closeBlock_0 hi k0 K))
theorem dX7_verbTold_0 : decode cX7_verbTold 0 = .ok (.aload_n 0, 1) := by decide +kernel
theorem dX7_verbTold_1 : decode cX7_verbTold 1 = .ok (.ldc 79, 2) := by decide +kernel
theorem dX7_verbTold_3 : decode cX7_verbTold 3 = .ok (.invokevirtual 81, 3) := by decide +kernel
theorem dX7_verbTold_6 : decode cX7_verbTold 6 = .ok (.ifCond .eq 5, 3) := by decide +kernel
theorem dX7_verbTold_9 : decode cX7_verbTold 9 = .ok (.iconst 0, 1) := by decide +kernel
theorem dX7_verbTold_10 : decode cX7_verbTold 10 = .ok (.ireturn, 1) := by decide +kernel
theorem dX7_verbTold_11 : decode cX7_verbTold 11 = .ok (.aload_n 0, 1) := by decide +kernel
theorem dX7_verbTold_12 : decode cX7_verbTold 12 = .ok (.ldc 85, 2) := by decide +kernel
theorem dX7_verbTold_14 : decode cX7_verbTold 14 = .ok (.invokevirtual 81, 3) := by decide +kernel
theorem dX7_verbTold_17 : decode cX7_verbTold 17 = .ok (.ifCond .eq 5, 3) := by decide +kernel
theorem dX7_verbTold_20 : decode cX7_verbTold 20 = .ok (.iconst 1, 1) := by decide +kernel
theorem dX7_verbTold_21 : decode cX7_verbTold 21 = .ok (.ireturn, 1) := by decide +kernel
theorem dX7_verbTold_22 : decode cX7_verbTold 22 = .ok (.aload_n 0, 1) := by decide +kernel
theorem dX7_verbTold_23 : decode cX7_verbTold 23 = .ok (.ldc 87, 2) := by decide +kernel
theorem dX7_verbTold_25 : decode cX7_verbTold 25 = .ok (.invokevirtual 81, 3) := by decide +kernel
theorem dX7_verbTold_28 : decode cX7_verbTold 28 = .ok (.ifCond .eq 5, 3) := by decide +kernel
theorem dX7_verbTold_31 : decode cX7_verbTold 31 = .ok (.iconst 2, 1) := by decide +kernel
theorem dX7_verbTold_32 : decode cX7_verbTold 32 = .ok (.ireturn, 1) := by decide +kernel
theorem dX7_verbTold_33 : decode cX7_verbTold 33 = .ok (.aload_n 0, 1) := by decide +kernel
theorem dX7_verbTold_34 : decode cX7_verbTold 34 = .ok (.ldc 89, 2) := by decide +kernel
theorem dX7_verbTold_36 : decode cX7_verbTold 36 = .ok (.invokevirtual 81, 3) := by decide +kernel
theorem dX7_verbTold_39 : decode cX7_verbTold 39 = .ok (.ifCond .eq 5, 3) := by decide +kernel
theorem dX7_verbTold_42 : decode cX7_verbTold 42 = .ok (.iconst 3, 1) := by decide +kernel
theorem dX7_verbTold_43 : decode cX7_verbTold 43 = .ok (.ireturn, 1) := by decide +kernel
theorem dX7_verbTold_44 : decode cX7_verbTold 44 = .ok (.aload_n 0, 1) := by decide +kernel
theorem dX7_verbTold_45 : decode cX7_verbTold 45 = .ok (.ldc 90, 2) := by decide +kernel
theorem dX7_verbTold_47 : decode cX7_verbTold 47 = .ok (.invokevirtual 81, 3) := by decide +kernel
theorem dX7_verbTold_50 : decode cX7_verbTold 50 = .ok (.ifCond .eq 5, 3) := by decide +kernel
theorem dX7_verbTold_53 : decode cX7_verbTold 53 = .ok (.iconst 4, 1) := by decide +kernel
theorem dX7_verbTold_54 : decode cX7_verbTold 54 = .ok (.ireturn, 1) := by decide +kernel
theorem dX7_verbTold_55 : decode cX7_verbTold 55 = .ok (.aload_n 0, 1) := by decide +kernel
theorem dX7_verbTold_56 : decode cX7_verbTold 56 = .ok (.ldc 92, 2) := by decide +kernel
theorem dX7_verbTold_58 : decode cX7_verbTold 58 = .ok (.invokevirtual 81, 3) := by decide +kernel
theorem dX7_verbTold_61 : decode cX7_verbTold 61 = .ok (.ifCond .eq 5, 3) := by decide +kernel
theorem dX7_verbTold_64 : decode cX7_verbTold 64 = .ok (.iconst 5, 1) := by decide +kernel
theorem dX7_verbTold_65 : decode cX7_verbTold 65 = .ok (.ireturn, 1) := by decide +kernel
theorem dX7_verbTold_66 : decode cX7_verbTold 66 = .ok (.aload_n 0, 1) := by decide +kernel
theorem dX7_verbTold_67 : decode cX7_verbTold 67 = .ok (.ldc 94, 2) := by decide +kernel
theorem dX7_verbTold_69 : decode cX7_verbTold 69 = .ok (.invokevirtual 81, 3) := by decide +kernel
theorem dX7_verbTold_72 : decode cX7_verbTold 72 = .ok (.ifCond .eq 8, 3) := by decide +kernel
theorem dX7_verbTold_75 : decode cX7_verbTold 75 = .ok (.bipush 6, 2) := by decide +kernel
theorem dX7_verbTold_77 : decode cX7_verbTold 77 = .ok (.goto 4, 3) := by decide +kernel
theorem dX7_verbTold_80 : decode cX7_verbTold 80 = .ok (.iconst (-1), 1) := by decide +kernel
theorem dX7_verbTold_81 : decode cX7_verbTold 81 = .ok (.ireturn, 1) := by decide +kernel
theorem bX7_verbTold_0 {G : GX} {h : mH} {Q : mO → mH → Prop} (hi : Iv h) (K : WM G jX9_isWord [.ref 1, .float (UInt32.ofNat 8)] h (Aft G jX7_verbTold 3 [some (.ref 1)] [] Q)) : Vw G jX7_verbTold 0 [some (.ref 1)] [] h Q :=
  s_aload_n dX7_verbTold_0 rfl (s_ldcS (n := 8) dX7_verbTold_1 rfl (by decide) (s_callV (As := [.float (UInt32.ofNat 8)]) dX7_verbTold_3 rfl lvX7_81 ⟨Nat.le_of_ble_eq_true rfl, Nat.le_of_ble_eq_true rfl⟩ (hi.sh rfl rfl) ⟨_, _, by decide, rfl⟩ rfl (Nat.le_of_ble_eq_true rfl) (K)))
theorem bX7_verbTold_6 {G : GX} {h : mH} {Q : mO → mH → Prop} {vs0 : Int32} (hi : Iv h) (K : (vs0 = 0 → WM G jX9_isWord [.ref 1, .float (UInt32.ofNat 9)] h (Aft G jX7_verbTold 14 [some (.ref 1)] [] Q)) ∧ (¬ vs0 = 0 → Q (.inl (some (.int 0))) h)) : Vw G jX7_verbTold 6 [some (.ref 1)] [.int vs0] h Q :=
  s_if_eq 11 dX7_verbTold_6 rfl (fun q0 => s_aload_n dX7_verbTold_11 rfl (s_ldcS (n := 9) dX7_verbTold_12 rfl (by decide) (s_callV (As := [.float (UInt32.ofNat 9)]) dX7_verbTold_14 rfl lvX7_81 ⟨Nat.le_of_ble_eq_true rfl, Nat.le_of_ble_eq_true rfl⟩ (hi.sh rfl rfl) ⟨_, _, by decide, rfl⟩ rfl (Nat.le_of_ble_eq_true rfl) ((K.1 q0))))) (fun q0 => s_iconst 0 dX7_verbTold_9 (by decide) (s_ireturn dX7_verbTold_10 rfl (K.2 q0)))
theorem bX7_verbTold_17 {G : GX} {h : mH} {Q : mO → mH → Prop} {vs0 : Int32} (hi : Iv h) (K : (vs0 = 0 → WM G jX9_isWord [.ref 1, .float (UInt32.ofNat 10)] h (Aft G jX7_verbTold 25 [some (.ref 1)] [] Q)) ∧ (¬ vs0 = 0 → Q (.inl (some (.int 1))) h)) : Vw G jX7_verbTold 17 [some (.ref 1)] [.int vs0] h Q :=
  s_if_eq 22 dX7_verbTold_17 rfl (fun q0 => s_aload_n dX7_verbTold_22 rfl (s_ldcS (n := 10) dX7_verbTold_23 rfl (by decide) (s_callV (As := [.float (UInt32.ofNat 10)]) dX7_verbTold_25 rfl lvX7_81 ⟨Nat.le_of_ble_eq_true rfl, Nat.le_of_ble_eq_true rfl⟩ (hi.sh rfl rfl) ⟨_, _, by decide, rfl⟩ rfl (Nat.le_of_ble_eq_true rfl) ((K.1 q0))))) (fun q0 => s_iconst 1 dX7_verbTold_20 (by decide) (s_ireturn dX7_verbTold_21 rfl (K.2 q0)))
theorem bX7_verbTold_28 {G : GX} {h : mH} {Q : mO → mH → Prop} {vs0 : Int32} (hi : Iv h) (K : (vs0 = 0 → WM G jX9_isWord [.ref 1, .float (UInt32.ofNat 11)] h (Aft G jX7_verbTold 36 [some (.ref 1)] [] Q)) ∧ (¬ vs0 = 0 → Q (.inl (some (.int 2))) h)) : Vw G jX7_verbTold 28 [some (.ref 1)] [.int vs0] h Q :=
  s_if_eq 33 dX7_verbTold_28 rfl (fun q0 => s_aload_n dX7_verbTold_33 rfl (s_ldcS (n := 11) dX7_verbTold_34 rfl (by decide) (s_callV (As := [.float (UInt32.ofNat 11)]) dX7_verbTold_36 rfl lvX7_81 ⟨Nat.le_of_ble_eq_true rfl, Nat.le_of_ble_eq_true rfl⟩ (hi.sh rfl rfl) ⟨_, _, by decide, rfl⟩ rfl (Nat.le_of_ble_eq_true rfl) ((K.1 q0))))) (fun q0 => s_iconst 2 dX7_verbTold_31 (by decide) (s_ireturn dX7_verbTold_32 rfl (K.2 q0)))
theorem bX7_verbTold_39 {G : GX} {h : mH} {Q : mO → mH → Prop} {vs0 : Int32} (hi : Iv h) (K : (vs0 = 0 → WM G jX9_isWord [.ref 1, .float (UInt32.ofNat 12)] h (Aft G jX7_verbTold 47 [some (.ref 1)] [] Q)) ∧ (¬ vs0 = 0 → Q (.inl (some (.int 3))) h)) : Vw G jX7_verbTold 39 [some (.ref 1)] [.int vs0] h Q :=
  s_if_eq 44 dX7_verbTold_39 rfl (fun q0 => s_aload_n dX7_verbTold_44 rfl (s_ldcS (n := 12) dX7_verbTold_45 rfl (by decide) (s_callV (As := [.float (UInt32.ofNat 12)]) dX7_verbTold_47 rfl lvX7_81 ⟨Nat.le_of_ble_eq_true rfl, Nat.le_of_ble_eq_true rfl⟩ (hi.sh rfl rfl) ⟨_, _, by decide, rfl⟩ rfl (Nat.le_of_ble_eq_true rfl) ((K.1 q0))))) (fun q0 => s_iconst 3 dX7_verbTold_42 (by decide) (s_ireturn dX7_verbTold_43 rfl (K.2 q0)))
theorem bX7_verbTold_50 {G : GX} {h : mH} {Q : mO → mH → Prop} {vs0 : Int32} (hi : Iv h) (K : (vs0 = 0 → WM G jX9_isWord [.ref 1, .float (UInt32.ofNat 13)] h (Aft G jX7_verbTold 58 [some (.ref 1)] [] Q)) ∧ (¬ vs0 = 0 → Q (.inl (some (.int 4))) h)) : Vw G jX7_verbTold 50 [some (.ref 1)] [.int vs0] h Q :=
  s_if_eq 55 dX7_verbTold_50 rfl (fun q0 => s_aload_n dX7_verbTold_55 rfl (s_ldcS (n := 13) dX7_verbTold_56 rfl (by decide) (s_callV (As := [.float (UInt32.ofNat 13)]) dX7_verbTold_58 rfl lvX7_81 ⟨Nat.le_of_ble_eq_true rfl, Nat.le_of_ble_eq_true rfl⟩ (hi.sh rfl rfl) ⟨_, _, by decide, rfl⟩ rfl (Nat.le_of_ble_eq_true rfl) ((K.1 q0))))) (fun q0 => s_iconst 4 dX7_verbTold_53 (by decide) (s_ireturn dX7_verbTold_54 rfl (K.2 q0)))
theorem bX7_verbTold_61 {G : GX} {h : mH} {Q : mO → mH → Prop} {vs0 : Int32} (hi : Iv h) (K : (vs0 = 0 → WM G jX9_isWord [.ref 1, .float (UInt32.ofNat 14)] h (Aft G jX7_verbTold 69 [none] [] Q)) ∧ (¬ vs0 = 0 → Q (.inl (some (.int 5))) h)) : Vw G jX7_verbTold 61 [some (.ref 1)] [.int vs0] h Q :=
  s_if_eq 66 dX7_verbTold_61 rfl (fun q0 => s_aload_n dX7_verbTold_66 rfl (s_ldcS (n := 14) dX7_verbTold_67 rfl (by decide) (Vw.mask [false] (s_callV (As := [.float (UInt32.ofNat 14)]) dX7_verbTold_69 rfl lvX7_81 ⟨Nat.le_of_ble_eq_true rfl, Nat.le_of_ble_eq_true rfl⟩ (hi.sh rfl rfl) ⟨_, _, by decide, rfl⟩ rfl (Nat.le_of_ble_eq_true rfl) ((K.1 q0)))))) (fun q0 => s_iconst 5 dX7_verbTold_64 (by decide) (s_ireturn dX7_verbTold_65 rfl (K.2 q0)))
theorem bX7_verbTold_72 {G : GX} {h : mH} {Q : mO → mH → Prop} {vs0 : Int32} (hi : Iv h) (K : (vs0 = 0 → Q (.inl (some (.int (-1)))) h) ∧ (¬ vs0 = 0 → Q (.inl (some (.int 6))) h)) : Vw G jX7_verbTold 72 [none] [.int vs0] h Q :=
  s_if_eq 80 dX7_verbTold_72 rfl (fun q0 => s_iconst (-1) dX7_verbTold_80 (by decide) (s_ireturn dX7_verbTold_81 rfl (K.1 q0))) (fun q0 => s_bipush 6 dX7_verbTold_75 (by decide) (s_goto 81 dX7_verbTold_77 rfl (s_ireturn dX7_verbTold_81 rfl (K.2 q0))))
theorem eX7_verbTold {G : GX} {h : mH} {Q : mO → mH → Prop} (hi : Iv h) (K : WM G jX9_isWord [.ref 1, .float (UInt32.ofNat 8)] h (Aft G jX7_verbTold 3 [some (.ref 1)] [] Q)) : WM G jX7_verbTold [.ref 1] h Q :=
  WM.body (ls := [some (.ref 1)]) rfl (by decide +kernel) rfl (Nat.le_of_ble_eq_true rfl) rfl ((bX7_verbTold_0 hi  K))
theorem dX7_readNumber_0 : decode cX7_readNumber 0 = .ok (.aload_n 1, 1) := by decide +kernel
theorem dX7_readNumber_1 : decode cX7_readNumber 1 = .ok (.iload_n 2, 1) := by decide +kernel
theorem dX7_readNumber_2 : decode cX7_readNumber 2 = .ok (.iload_n 3, 1) := by decide +kernel
theorem dX7_readNumber_3 : decode cX7_readNumber 3 = .ok (.invokevirtual 96, 3) := by decide +kernel
theorem dX7_readNumber_6 : decode cX7_readNumber 6 = .ok (.ifCond .ne 5, 3) := by decide +kernel
theorem dX7_readNumber_9 : decode cX7_readNumber 9 = .ok (.iconst 0, 1) := by decide +kernel
theorem dX7_readNumber_10 : decode cX7_readNumber 10 = .ok (.ireturn, 1) := by decide +kernel
theorem dX7_readNumber_11 : decode cX7_readNumber 11 = .ok (.aload_n 0, 1) := by decide +kernel
theorem dX7_readNumber_12 : decode cX7_readNumber 12 = .ok (.getfield 17, 3) := by decide +kernel
theorem dX7_readNumber_15 : decode cX7_readNumber 15 = .ok (.aload_n 0, 1) := by decide +kernel
theorem dX7_readNumber_16 : decode cX7_readNumber 16 = .ok (.getfield 29, 3) := by decide +kernel
theorem dX7_readNumber_19 : decode cX7_readNumber 19 = .ok (.iconst 1, 1) := by decide +kernel
theorem dX7_readNumber_20 : decode cX7_readNumber 20 = .ok (.isub, 1) := by decide +kernel
theorem dX7_readNumber_21 : decode cX7_readNumber 21 = .ok (.aload_n 1, 1) := by decide +kernel
theorem dX7_readNumber_22 : decode cX7_readNumber 22 = .ok (.getfield 100, 3) := by decide +kernel
theorem dX7_readNumber_25 : decode cX7_readNumber 25 = .ok (.iastore, 1) := by decide +kernel
theorem dX7_readNumber_26 : decode cX7_readNumber 26 = .ok (.iconst 1, 1) := by decide +kernel
theorem dX7_readNumber_27 : decode cX7_readNumber 27 = .ok (.ireturn, 1) := by decide +kernel
theorem bX7_readNumber_0 {G : GX} {h : mH} {Q : mO → mH → Prop} {r0 : Nat} {v2 : Int32} {v3 : Int32} (hi : Iv h) (k0 : kd r0 = (7, 7)) (K : WM G jX9_takeNumber [.ref 1, .int v2, .int v3] h (Aft G jX7_readNumber 3 [some (.ref r0), some (.ref 1), none, none] [] Q)) : Vw G jX7_readNumber 0 [some (.ref r0), some (.ref 1), some (.int v2), some (.int v3)] [] h Q :=
  s_aload_n dX7_readNumber_0 rfl (s_iload_n dX7_readNumber_1 rfl (s_iload_n dX7_readNumber_2 rfl (Vw.mask [true, true, false, false] (s_callV (As := [.int v2, .int v3]) dX7_readNumber_3 rfl lvX7_96 ⟨Nat.le_of_ble_eq_true rfl, Nat.le_of_ble_eq_true rfl⟩ (hi.sh rfl rfl) ⟨_, _, by decide, rfl⟩ rfl (Nat.le_of_ble_eq_true rfl) (K)))))
theorem bX7_readNumber_6 {G : GX} {h : mH} {Q : mO → mH → Prop} {r0 : Nat} {vs0 : Int32} (hi : Iv h) (k0 : kd r0 = (7, 7)) (K : (¬ vs0 = 0 → (vp_in ((gI h r0 4) - 1) 100 ∧ Q (.inl (some (.int 1))) (pI h (r0 + 2) (Int32.toNatClampNeg ((gI h r0 4) - 1)) (gI h 1 4)))) ∧ (vs0 = 0 → Q (.inl (some (.int 0))) h)) : Vw G jX7_readNumber 6 [some (.ref r0), some (.ref 1), none, none] [.int vs0] h Q :=
  s_if_ne 11 dX7_readNumber_6 rfl (fun q0 => s_aload_n dX7_readNumber_11 rfl (s_getR (v := .ref (r0 + 2)) dX7_readNumber_12 flX7_17 rfl (hi.sh k0 rfl) (hi.rf (o := r0) (k := 1) (d := 2) k0 rfl) (s_aload_n dX7_readNumber_15 rfl (s_getI dX7_readNumber_16 flX7_29 (Or.inl rfl) (hi.sh k0 rfl) (s_iconst 1 dX7_readNumber_19 (by decide) (s_isub dX7_readNumber_20 (s_aload_n dX7_readNumber_21 rfl (s_getI dX7_readNumber_22 flX7_100 (Or.inl rfl) (hi.sh rfl rfl) (s_iastore dX7_readNumber_25 (hi.sh (kd7_1 k0) rfl) (K.1 q0).1 (s_iconst 1 dX7_readNumber_26 (by decide) (s_zreturn dX7_readNumber_27 rfl (by decide) (K.1 q0).2))))))))))) (fun q0 => s_iconst 0 dX7_readNumber_9 (by decide) (s_zreturn dX7_readNumber_10 rfl (by decide) (K.2 q0)))
theorem eX7_readNumber {G : GX} {h : mH} {Q : mO → mH → Prop} {r0 : Nat} {v2 : Int32} {v3 : Int32} (hi : Iv h) (k0 : kd r0 = (7, 7)) (K : WM G jX9_takeNumber [.ref 1, .int v2, .int v3] h (Aft G jX7_readNumber 3 [some (.ref r0), some (.ref 1), none, none] [] Q)) : WM G jX7_readNumber [.ref r0, .ref 1, .int v2, .int v3] h Q :=
  WM.body (ls := [some (.ref r0), some (.ref 1), some (.int v2), some (.int v3)]) rfl (by decide +kernel) rfl (Nat.le_of_ble_eq_true rfl) rfl ((bX7_readNumber_0 hi k0 K))
theorem dX7_readChange_0 : decode cX7_readChange 0 = .ok (.aload_n 0, 1) := by decide +kernel
theorem dX7_readChange_1 : decode cX7_readChange 1 = .ok (.aload_n 1, 1) := by decide +kernel
theorem dX7_readChange_2 : decode cX7_readChange 2 = .ok (.iconst 0, 1) := by decide +kernel
theorem dX7_readChange_3 : decode cX7_readChange 3 = .ok (.iconst 3, 1) := by decide +kernel
theorem dX7_readChange_4 : decode cX7_readChange 4 = .ok (.invokevirtual 65, 3) := by decide +kernel
theorem dX7_readChange_7 : decode cX7_readChange 7 = .ok (.ifCond .eq 11, 3) := by decide +kernel
theorem dX7_readChange_10 : decode cX7_readChange 10 = .ok (.aload_n 1, 1) := by decide +kernel
theorem dX7_readChange_11 : decode cX7_readChange 11 = .ok (.iload_n 2, 1) := by decide +kernel
theorem dX7_readChange_12 : decode cX7_readChange 12 = .ok (.invokevirtual 103, 3) := by decide +kernel
theorem dX7_readChange_15 : decode cX7_readChange 15 = .ok (.ifCond .ne 5, 3) := by decide +kernel
theorem dX7_readChange_18 : decode cX7_readChange 18 = .ok (.iconst 0, 1) := by decide +kernel
theorem dX7_readChange_19 : decode cX7_readChange 19 = .ok (.ireturn, 1) := by decide +kernel
theorem dX7_readChange_20 : decode cX7_readChange 20 = .ok (.aload_n 0, 1) := by decide +kernel
theorem dX7_readChange_21 : decode cX7_readChange 21 = .ok (.getfield 20, 3) := by decide +kernel
theorem dX7_readChange_24 : decode cX7_readChange 24 = .ok (.aload_n 0, 1) := by decide +kernel
theorem dX7_readChange_25 : decode cX7_readChange 25 = .ok (.getfield 29, 3) := by decide +kernel
theorem dX7_readChange_28 : decode cX7_readChange 28 = .ok (.iconst 1, 1) := by decide +kernel
theorem dX7_readChange_29 : decode cX7_readChange 29 = .ok (.isub, 1) := by decide +kernel
theorem dX7_readChange_30 : decode cX7_readChange 30 = .ok (.aload_n 1, 1) := by decide +kernel
theorem dX7_readChange_31 : decode cX7_readChange 31 = .ok (.getfield 100, 3) := by decide +kernel
theorem dX7_readChange_34 : decode cX7_readChange 34 = .ok (.iastore, 1) := by decide +kernel
theorem dX7_readChange_35 : decode cX7_readChange 35 = .ok (.iconst 1, 1) := by decide +kernel
theorem dX7_readChange_36 : decode cX7_readChange 36 = .ok (.ireturn, 1) := by decide +kernel
theorem bX7_readChange_0 {G : GX} {h : mH} {Q : mO → mH → Prop} {r0 : Nat} {v2 : Int32} (hi : Iv h) (k0 : kd r0 = (7, 7)) (K : WM G jX7_readNumber [.ref r0, .ref 1, .int 0, .int 3] h (Aft G jX7_readChange 4 [some (.ref r0), some (.ref 1), some (.int v2)] [] Q)) : Vw G jX7_readChange 0 [some (.ref r0), some (.ref 1), some (.int v2)] [] h Q :=
  s_aload_n dX7_readChange_0 rfl (s_aload_n dX7_readChange_1 rfl (s_iconst 0 dX7_readChange_2 (by decide) (s_iconst 3 dX7_readChange_3 (by decide) (s_callV (As := [.ref 1, .int 0, .int 3]) dX7_readChange_4 rfl lvX7_65 ⟨Nat.le_of_ble_eq_true rfl, Nat.le_of_ble_eq_true rfl⟩ (hi.sh k0 rfl) ⟨_, _, by decide, rfl⟩ rfl (Nat.le_of_ble_eq_true rfl) (K)))))
theorem bX7_readChange_7 {G : GX} {h : mH} {Q : mO → mH → Prop} {r0 : Nat} {v2 : Int32} {vs0 : Int32} (hi : Iv h) (k0 : kd r0 = (7, 7)) (K : (vs0 = 0 → Q (.inl (some (.int 0))) h) ∧ (¬ vs0 = 0 → WM G jX9_takeSigned [.ref 1, .int v2] h (Aft G jX7_readChange 12 [some (.ref r0), some (.ref 1), none] [] Q))) : Vw G jX7_readChange 7 [some (.ref r0), some (.ref 1), some (.int v2)] [.int vs0] h Q :=
  s_if_eq 18 dX7_readChange_7 rfl (fun q0 => s_iconst 0 dX7_readChange_18 (by decide) (s_zreturn dX7_readChange_19 rfl (by decide) (K.1 q0))) (fun q0 => s_aload_n dX7_readChange_10 rfl (s_iload_n dX7_readChange_11 rfl (Vw.mask [true, true, false] (s_callV (As := [.int v2]) dX7_readChange_12 rfl lvX7_103 ⟨Nat.le_of_ble_eq_true rfl, Nat.le_of_ble_eq_true rfl⟩ (hi.sh rfl rfl) ⟨_, _, by decide, rfl⟩ rfl (Nat.le_of_ble_eq_true rfl) ((K.2 q0))))))
theorem bX7_readChange_15 {G : GX} {h : mH} {Q : mO → mH → Prop} {r0 : Nat} {vs0 : Int32} (hi : Iv h) (k0 : kd r0 = (7, 7)) (K : (¬ vs0 = 0 → (vp_in ((gI h r0 4) - 1) 100 ∧ Q (.inl (some (.int 1))) (pI h (r0 + 3) (Int32.toNatClampNeg ((gI h r0 4) - 1)) (gI h 1 4)))) ∧ (vs0 = 0 → Q (.inl (some (.int 0))) h)) : Vw G jX7_readChange 15 [some (.ref r0), some (.ref 1), none] [.int vs0] h Q :=
  s_if_ne 20 dX7_readChange_15 rfl (fun q0 => s_aload_n dX7_readChange_20 rfl (s_getR (v := .ref (r0 + 3)) dX7_readChange_21 flX7_20 rfl (hi.sh k0 rfl) (hi.rf (o := r0) (k := 2) (d := 3) k0 rfl) (s_aload_n dX7_readChange_24 rfl (s_getI dX7_readChange_25 flX7_29 (Or.inl rfl) (hi.sh k0 rfl) (s_iconst 1 dX7_readChange_28 (by decide) (s_isub dX7_readChange_29 (s_aload_n dX7_readChange_30 rfl (s_getI dX7_readChange_31 flX7_100 (Or.inl rfl) (hi.sh rfl rfl) (s_iastore dX7_readChange_34 (hi.sh (kd7_2 k0) rfl) (K.1 q0).1 (s_iconst 1 dX7_readChange_35 (by decide) (s_zreturn dX7_readChange_36 rfl (by decide) (K.1 q0).2))))))))))) (fun q0 => s_iconst 0 dX7_readChange_18 (by decide) (s_zreturn dX7_readChange_19 rfl (by decide) (K.2 q0)))
theorem eX7_readChange {G : GX} {h : mH} {Q : mO → mH → Prop} {r0 : Nat} {v2 : Int32} (hi : Iv h) (k0 : kd r0 = (7, 7)) (K : WM G jX7_readNumber [.ref r0, .ref 1, .int 0, .int 3] h (Aft G jX7_readChange 4 [some (.ref r0), some (.ref 1), some (.int v2)] [] Q)) : WM G jX7_readChange [.ref r0, .ref 1, .int v2] h Q :=
  WM.body (ls := [some (.ref r0), some (.ref 1), some (.int v2)]) rfl (by decide +kernel) rfl (Nat.le_of_ble_eq_true rfl) rfl ((bX7_readChange_0 hi k0 K))
theorem dX7_testTold_0 : decode cX7_testTold 0 = .ok (.aload_n 0, 1) := by decide +kernel
theorem dX7_testTold_1 : decode cX7_testTold 1 = .ok (.ldc 111, 2) := by decide +kernel
theorem dX7_testTold_3 : decode cX7_testTold 3 = .ok (.invokevirtual 81, 3) := by decide +kernel
theorem dX7_testTold_6 : decode cX7_testTold 6 = .ok (.ifCond .eq 5, 3) := by decide +kernel
theorem dX7_testTold_9 : decode cX7_testTold 9 = .ok (.iconst 0, 1) := by decide +kernel
theorem dX7_testTold_10 : decode cX7_testTold 10 = .ok (.ireturn, 1) := by decide +kernel
theorem dX7_testTold_11 : decode cX7_testTold 11 = .ok (.aload_n 0, 1) := by decide +kernel
theorem dX7_testTold_12 : decode cX7_testTold 12 = .ok (.ldc 113, 2) := by decide +kernel
theorem dX7_testTold_14 : decode cX7_testTold 14 = .ok (.invokevirtual 81, 3) := by decide +kernel
theorem dX7_testTold_17 : decode cX7_testTold 17 = .ok (.ifCond .eq 5, 3) := by decide +kernel
theorem dX7_testTold_20 : decode cX7_testTold 20 = .ok (.iconst 1, 1) := by decide +kernel
theorem dX7_testTold_21 : decode cX7_testTold 21 = .ok (.ireturn, 1) := by decide +kernel
theorem dX7_testTold_22 : decode cX7_testTold 22 = .ok (.aload_n 0, 1) := by decide +kernel
theorem dX7_testTold_23 : decode cX7_testTold 23 = .ok (.ldc 115, 2) := by decide +kernel
theorem dX7_testTold_25 : decode cX7_testTold 25 = .ok (.invokevirtual 81, 3) := by decide +kernel
theorem dX7_testTold_28 : decode cX7_testTold 28 = .ok (.ifCond .eq 5, 3) := by decide +kernel
theorem dX7_testTold_31 : decode cX7_testTold 31 = .ok (.iconst 2, 1) := by decide +kernel
theorem dX7_testTold_32 : decode cX7_testTold 32 = .ok (.ireturn, 1) := by decide +kernel
theorem dX7_testTold_33 : decode cX7_testTold 33 = .ok (.aload_n 0, 1) := by decide +kernel
theorem dX7_testTold_34 : decode cX7_testTold 34 = .ok (.ldc 117, 2) := by decide +kernel
theorem dX7_testTold_36 : decode cX7_testTold 36 = .ok (.invokevirtual 81, 3) := by decide +kernel
theorem dX7_testTold_39 : decode cX7_testTold 39 = .ok (.ifCond .eq 7, 3) := by decide +kernel
theorem dX7_testTold_42 : decode cX7_testTold 42 = .ok (.iconst 3, 1) := by decide +kernel
theorem dX7_testTold_43 : decode cX7_testTold 43 = .ok (.goto 4, 3) := by decide +kernel
theorem dX7_testTold_46 : decode cX7_testTold 46 = .ok (.iconst (-1), 1) := by decide +kernel
theorem dX7_testTold_47 : decode cX7_testTold 47 = .ok (.ireturn, 1) := by decide +kernel
theorem bX7_testTold_0 {G : GX} {h : mH} {Q : mO → mH → Prop} (hi : Iv h) (K : WM G jX9_isWord [.ref 1, .float (UInt32.ofNat 16)] h (Aft G jX7_testTold 3 [some (.ref 1)] [] Q)) : Vw G jX7_testTold 0 [some (.ref 1)] [] h Q :=
  s_aload_n dX7_testTold_0 rfl (s_ldcS (n := 16) dX7_testTold_1 rfl (by decide) (s_callV (As := [.float (UInt32.ofNat 16)]) dX7_testTold_3 rfl lvX7_81 ⟨Nat.le_of_ble_eq_true rfl, Nat.le_of_ble_eq_true rfl⟩ (hi.sh rfl rfl) ⟨_, _, by decide, rfl⟩ rfl (Nat.le_of_ble_eq_true rfl) (K)))
theorem bX7_testTold_6 {G : GX} {h : mH} {Q : mO → mH → Prop} {vs0 : Int32} (hi : Iv h) (K : (vs0 = 0 → WM G jX9_isWord [.ref 1, .float (UInt32.ofNat 17)] h (Aft G jX7_testTold 14 [some (.ref 1)] [] Q)) ∧ (¬ vs0 = 0 → Q (.inl (some (.int 0))) h)) : Vw G jX7_testTold 6 [some (.ref 1)] [.int vs0] h Q :=
  s_if_eq 11 dX7_testTold_6 rfl (fun q0 => s_aload_n dX7_testTold_11 rfl (s_ldcS (n := 17) dX7_testTold_12 rfl (by decide) (s_callV (As := [.float (UInt32.ofNat 17)]) dX7_testTold_14 rfl lvX7_81 ⟨Nat.le_of_ble_eq_true rfl, Nat.le_of_ble_eq_true rfl⟩ (hi.sh rfl rfl) ⟨_, _, by decide, rfl⟩ rfl (Nat.le_of_ble_eq_true rfl) ((K.1 q0))))) (fun q0 => s_iconst 0 dX7_testTold_9 (by decide) (s_ireturn dX7_testTold_10 rfl (K.2 q0)))
theorem bX7_testTold_17 {G : GX} {h : mH} {Q : mO → mH → Prop} {vs0 : Int32} (hi : Iv h) (K : (vs0 = 0 → WM G jX9_isWord [.ref 1, .float (UInt32.ofNat 18)] h (Aft G jX7_testTold 25 [some (.ref 1)] [] Q)) ∧ (¬ vs0 = 0 → Q (.inl (some (.int 1))) h)) : Vw G jX7_testTold 17 [some (.ref 1)] [.int vs0] h Q :=
  s_if_eq 22 dX7_testTold_17 rfl (fun q0 => s_aload_n dX7_testTold_22 rfl (s_ldcS (n := 18) dX7_testTold_23 rfl (by decide) (s_callV (As := [.float (UInt32.ofNat 18)]) dX7_testTold_25 rfl lvX7_81 ⟨Nat.le_of_ble_eq_true rfl, Nat.le_of_ble_eq_true rfl⟩ (hi.sh rfl rfl) ⟨_, _, by decide, rfl⟩ rfl (Nat.le_of_ble_eq_true rfl) ((K.1 q0))))) (fun q0 => s_iconst 1 dX7_testTold_20 (by decide) (s_ireturn dX7_testTold_21 rfl (K.2 q0)))
theorem bX7_testTold_28 {G : GX} {h : mH} {Q : mO → mH → Prop} {vs0 : Int32} (hi : Iv h) (K : (vs0 = 0 → WM G jX9_isWord [.ref 1, .float (UInt32.ofNat 19)] h (Aft G jX7_testTold 36 [none] [] Q)) ∧ (¬ vs0 = 0 → Q (.inl (some (.int 2))) h)) : Vw G jX7_testTold 28 [some (.ref 1)] [.int vs0] h Q :=
  s_if_eq 33 dX7_testTold_28 rfl (fun q0 => s_aload_n dX7_testTold_33 rfl (s_ldcS (n := 19) dX7_testTold_34 rfl (by decide) (Vw.mask [false] (s_callV (As := [.float (UInt32.ofNat 19)]) dX7_testTold_36 rfl lvX7_81 ⟨Nat.le_of_ble_eq_true rfl, Nat.le_of_ble_eq_true rfl⟩ (hi.sh rfl rfl) ⟨_, _, by decide, rfl⟩ rfl (Nat.le_of_ble_eq_true rfl) ((K.1 q0)))))) (fun q0 => s_iconst 2 dX7_testTold_31 (by decide) (s_ireturn dX7_testTold_32 rfl (K.2 q0)))
theorem bX7_testTold_39 {G : GX} {h : mH} {Q : mO → mH → Prop} {vs0 : Int32} (hi : Iv h) (K : (vs0 = 0 → Q (.inl (some (.int (-1)))) h) ∧ (¬ vs0 = 0 → Q (.inl (some (.int 3))) h)) : Vw G jX7_testTold 39 [none] [.int vs0] h Q :=
  s_if_eq 46 dX7_testTold_39 rfl (fun q0 => s_iconst (-1) dX7_testTold_46 (by decide) (s_ireturn dX7_testTold_47 rfl (K.1 q0))) (fun q0 => s_iconst 3 dX7_testTold_42 (by decide) (s_goto 47 dX7_testTold_43 rfl (s_ireturn dX7_testTold_47 rfl (K.2 q0))))
theorem eX7_testTold {G : GX} {h : mH} {Q : mO → mH → Prop} (hi : Iv h) (K : WM G jX9_isWord [.ref 1, .float (UInt32.ofNat 16)] h (Aft G jX7_testTold 3 [some (.ref 1)] [] Q)) : WM G jX7_testTold [.ref 1] h Q :=
  WM.body (ls := [some (.ref 1)]) rfl (by decide +kernel) rfl (Nat.le_of_ble_eq_true rfl) rfl ((bX7_testTold_0 hi  K))
theorem dX7_readTest_0 : decode cX7_readTest 0 = .ok (.iconst 0, 1) := by decide +kernel
theorem dX7_readTest_1 : decode cX7_readTest 1 = .ok (.istore_n 2, 1) := by decide +kernel
theorem dX7_readTest_2 : decode cX7_readTest 2 = .ok (.iload_n 2, 1) := by decide +kernel
theorem dX7_readTest_3 : decode cX7_readTest 3 = .ok (.iconst 4, 1) := by decide +kernel
theorem dX7_readTest_4 : decode cX7_readTest 4 = .ok (.if_icmp .ge 22, 3) := by decide +kernel
theorem dX7_readTest_7 : decode cX7_readTest 7 = .ok (.aload_n 1, 1) := by decide +kernel
theorem dX7_readTest_8 : decode cX7_readTest 8 = .ok (.ldc 106, 2) := by decide +kernel
theorem dX7_readTest_10 : decode cX7_readTest 10 = .ok (.invokevirtual 81, 3) := by decide +kernel
theorem dX7_readTest_13 : decode cX7_readTest 13 = .ok (.ifCond .eq 13, 3) := by decide +kernel
theorem dX7_readTest_16 : decode cX7_readTest 16 = .ok (.iinc 2 1, 3) := by decide +kernel
theorem dX7_readTest_19 : decode cX7_readTest 19 = .ok (.aload_n 1, 1) := by decide +kernel
theorem dX7_readTest_20 : decode cX7_readTest 20 = .ok (.invokevirtual 62, 3) := by decide +kernel
theorem dX7_readTest_23 : decode cX7_readTest 23 = .ok (.goto (-21), 3) := by decide +kernel
theorem dX7_readTest_26 : decode cX7_readTest 26 = .ok (.aload_n 1, 1) := by decide +kernel
theorem dX7_readTest_27 : decode cX7_readTest 27 = .ok (.ldc 106, 2) := by decide +kernel
theorem dX7_readTest_29 : decode cX7_readTest 29 = .ok (.invokevirtual 81, 3) := by decide +kernel
theorem dX7_readTest_32 : decode cX7_readTest 32 = .ok (.ifCond .eq 9, 3) := by decide +kernel
theorem dX7_readTest_35 : decode cX7_readTest 35 = .ok (.aload_n 1, 1) := by decide +kernel
theorem dX7_readTest_36 : decode cX7_readTest 36 = .ok (.iconst 2, 1) := by decide +kernel
theorem dX7_readTest_37 : decode cX7_readTest 37 = .ok (.invokevirtual 51, 3) := by decide +kernel
theorem dX7_readTest_40 : decode cX7_readTest 40 = .ok (.ireturn, 1) := by decide +kernel
theorem dX7_readTest_41 : decode cX7_readTest 41 = .ok (.aload_n 0, 1) := by decide +kernel
theorem dX7_readTest_42 : decode cX7_readTest 42 = .ok (.getfield 20, 3) := by decide +kernel
theorem dX7_readTest_45 : decode cX7_readTest 45 = .ok (.aload_n 0, 1) := by decide +kernel
theorem dX7_readTest_46 : decode cX7_readTest 46 = .ok (.getfield 29, 3) := by decide +kernel
theorem dX7_readTest_49 : decode cX7_readTest 49 = .ok (.iconst 1, 1) := by decide +kernel
theorem dX7_readTest_50 : decode cX7_readTest 50 = .ok (.isub, 1) := by decide +kernel
theorem dX7_readTest_51 : decode cX7_readTest 51 = .ok (.iload_n 2, 1) := by decide +kernel
theorem dX7_readTest_52 : decode cX7_readTest 52 = .ok (.iconst 2, 1) := by decide +kernel
theorem dX7_readTest_53 : decode cX7_readTest 53 = .ok (.irem, 1) := by decide +kernel
theorem dX7_readTest_54 : decode cX7_readTest 54 = .ok (.iastore, 1) := by decide +kernel
theorem dX7_readTest_55 : decode cX7_readTest 55 = .ok (.aload_n 1, 1) := by decide +kernel
theorem dX7_readTest_56 : decode cX7_readTest 56 = .ok (.invokestatic 108, 3) := by decide +kernel
theorem dX7_readTest_59 : decode cX7_readTest 59 = .ok (.istore_n 3, 1) := by decide +kernel
theorem dX7_readTest_60 : decode cX7_readTest 60 = .ok (.iload_n 3, 1) := by decide +kernel
theorem dX7_readTest_61 : decode cX7_readTest 61 = .ok (.iconst (-1), 1) := by decide +kernel
theorem dX7_readTest_62 : decode cX7_readTest 62 = .ok (.if_icmp .ne 9, 3) := by decide +kernel
theorem dX7_readTest_65 : decode cX7_readTest 65 = .ok (.aload_n 1, 1) := by decide +kernel
theorem dX7_readTest_66 : decode cX7_readTest 66 = .ok (.iconst 1, 1) := by decide +kernel
theorem dX7_readTest_67 : decode cX7_readTest 67 = .ok (.invokevirtual 51, 3) := by decide +kernel
theorem dX7_readTest_70 : decode cX7_readTest 70 = .ok (.ireturn, 1) := by decide +kernel
theorem dX7_readTest_71 : decode cX7_readTest 71 = .ok (.aload_n 1, 1) := by decide +kernel
theorem dX7_readTest_72 : decode cX7_readTest 72 = .ok (.invokevirtual 62, 3) := by decide +kernel
theorem dX7_readTest_75 : decode cX7_readTest 75 = .ok (.iload_n 3, 1) := by decide +kernel
theorem dX7_readTest_76 : decode cX7_readTest 76 = .ok (.iconst 3, 1) := by decide +kernel
theorem dX7_readTest_77 : decode cX7_readTest 77 = .ok (.if_icmp .eq 17, 3) := by decide +kernel
theorem dX7_readTest_80 : decode cX7_readTest 80 = .ok (.aload_n 0, 1) := by decide +kernel
theorem dX7_readTest_81 : decode cX7_readTest 81 = .ok (.getfield 17, 3) := by decide +kernel
theorem dX7_readTest_84 : decode cX7_readTest 84 = .ok (.aload_n 0, 1) := by decide +kernel
theorem dX7_readTest_85 : decode cX7_readTest 85 = .ok (.getfield 29, 3) := by decide +kernel
theorem dX7_readTest_88 : decode cX7_readTest 88 = .ok (.iconst 1, 1) := by decide +kernel
theorem dX7_readTest_89 : decode cX7_readTest 89 = .ok (.isub, 1) := by decide +kernel
theorem dX7_readTest_90 : decode cX7_readTest 90 = .ok (.iload_n 3, 1) := by decide +kernel
theorem dX7_readTest_91 : decode cX7_readTest 91 = .ok (.iastore, 1) := by decide +kernel
theorem dX7_readTest_92 : decode cX7_readTest 92 = .ok (.iconst 1, 1) := by decide +kernel
theorem dX7_readTest_93 : decode cX7_readTest 93 = .ok (.ireturn, 1) := by decide +kernel
theorem dX7_readTest_94 : decode cX7_readTest 94 = .ok (.aload_n 0, 1) := by decide +kernel
theorem dX7_readTest_95 : decode cX7_readTest 95 = .ok (.aload_n 1, 1) := by decide +kernel
theorem dX7_readTest_96 : decode cX7_readTest 96 = .ok (.iconst 0, 1) := by decide +kernel
theorem dX7_readTest_97 : decode cX7_readTest 97 = .ok (.iconst 3, 1) := by decide +kernel
theorem dX7_readTest_98 : decode cX7_readTest 98 = .ok (.invokevirtual 65, 3) := by decide +kernel
theorem dX7_readTest_101 : decode cX7_readTest 101 = .ok (.ifCond .ne 5, 3) := by decide +kernel
theorem dX7_readTest_104 : decode cX7_readTest 104 = .ok (.iconst 0, 1) := by decide +kernel
theorem dX7_readTest_105 : decode cX7_readTest 105 = .ok (.ireturn, 1) := by decide +kernel
theorem dX7_readTest_106 : decode cX7_readTest 106 = .ok (.aload_n 0, 1) := by decide +kernel
theorem dX7_readTest_107 : decode cX7_readTest 107 = .ok (.getfield 17, 3) := by decide +kernel
theorem dX7_readTest_110 : decode cX7_readTest 110 = .ok (.aload_n 0, 1) := by decide +kernel
theorem dX7_readTest_111 : decode cX7_readTest 111 = .ok (.getfield 29, 3) := by decide +kernel
theorem dX7_readTest_114 : decode cX7_readTest 114 = .ok (.iconst 1, 1) := by decide +kernel
theorem dX7_readTest_115 : decode cX7_readTest 115 = .ok (.isub, 1) := by decide +kernel
theorem dX7_readTest_116 : decode cX7_readTest 116 = .ok (.dup2, 1) := by decide +kernel
theorem dX7_readTest_117 : decode cX7_readTest 117 = .ok (.iaload, 1) := by decide +kernel
theorem dX7_readTest_118 : decode cX7_readTest 118 = .ok (.iconst 3, 1) := by decide +kernel
theorem dX7_readTest_119 : decode cX7_readTest 119 = .ok (.iadd, 1) := by decide +kernel
theorem dX7_readTest_120 : decode cX7_readTest 120 = .ok (.iastore, 1) := by decide +kernel
theorem dX7_readTest_121 : decode cX7_readTest 121 = .ok (.iconst 1, 1) := by decide +kernel
theorem dX7_readTest_122 : decode cX7_readTest 122 = .ok (.ireturn, 1) := by decide +kernel
theorem bX7_readTest_0 {G : GX} {h : mH} {Q : mO → mH → Prop} {r0 : Nat} (hi : Iv h) (k0 : kd r0 = (7, 7)) (K : Vw G jX7_readTest 2 [some (.ref r0), some (.ref 1), some (.int 0), none] [] h Q) : Vw G jX7_readTest 0 [some (.ref r0), some (.ref 1), none, none] [] h Q :=
  s_iconst 0 dX7_readTest_0 (by decide) (s_istore_n dX7_readTest_1 (Nat.le_of_ble_eq_true rfl) rfl (K))
theorem bX7_readTest_2 {G : GX} {h : mH} {Q : mO → mH → Prop} {r0 : Nat} {v2 : Int32} (hi : Iv h) (k0 : kd r0 = (7, 7)) (K : (4 ≤ v2 → Vw G jX7_readTest 26 [some (.ref r0), some (.ref 1), some (.int v2), none] [] h Q) ∧ (¬ 4 ≤ v2 → WM G jX9_isWord [.ref 1, .float (UInt32.ofNat 15)] h (Aft G jX7_readTest 10 [some (.ref r0), some (.ref 1), some (.int v2), none] [] Q))) : Vw G jX7_readTest 2 [some (.ref r0), some (.ref 1), some (.int v2), none] [] h Q :=
  s_iload_n dX7_readTest_2 rfl (s_iconst 4 dX7_readTest_3 (by decide) (s_icmp_ge 26 dX7_readTest_4 rfl (fun q2 => (K.1 q2)) (fun q2 => s_aload_n dX7_readTest_7 rfl (s_ldcS (n := 15) dX7_readTest_8 rfl (by decide) (s_callV (As := [.float (UInt32.ofNat 15)]) dX7_readTest_10 rfl lvX7_81 ⟨Nat.le_of_ble_eq_true rfl, Nat.le_of_ble_eq_true rfl⟩ (hi.sh rfl rfl) ⟨_, _, by decide, rfl⟩ rfl (Nat.le_of_ble_eq_true rfl) ((K.2 q2)))))))
theorem bX7_readTest_13 {G : GX} {h : mH} {Q : mO → mH → Prop} {r0 : Nat} {v2 : Int32} {vs0 : Int32} (hi : Iv h) (k0 : kd r0 = (7, 7)) (K : (vs0 = 0 → Vw G jX7_readTest 26 [some (.ref r0), some (.ref 1), some (.int v2), none] [] h Q) ∧ (¬ vs0 = 0 → WM G jX9_advance [.ref 1] h (Aft G jX7_readTest 20 [some (.ref r0), some (.ref 1), some (.int (v2 + 1)), none] [] Q))) : Vw G jX7_readTest 13 [some (.ref r0), some (.ref 1), some (.int v2), none] [.int vs0] h Q :=
  s_if_eq 26 dX7_readTest_13 rfl (fun q0 => (K.1 q0)) (fun q0 => s_iinc 1 dX7_readTest_16 rfl (by decide) (Nat.le_of_ble_eq_true rfl) rfl (s_aload_n dX7_readTest_19 rfl (s_callV (As := []) dX7_readTest_20 rfl lvX7_62 ⟨Nat.le_of_ble_eq_true rfl, Nat.le_of_ble_eq_true rfl⟩ (hi.sh rfl rfl) ⟨_, _, by decide, rfl⟩ rfl (Nat.le_of_ble_eq_true rfl) ((K.2 q0)))))
theorem bX7_readTest_23 {G : GX} {h : mH} {Q : mO → mH → Prop} {r0 : Nat} {v2 : Int32} (hi : Iv h) (k0 : kd r0 = (7, 7)) (K : Vw G jX7_readTest 2 [some (.ref r0), some (.ref 1), some (.int v2), none] [] h Q) : Vw G jX7_readTest 23 [some (.ref r0), some (.ref 1), some (.int v2), none] [] h Q :=
  s_goto 2 dX7_readTest_23 rfl (K)
theorem bX7_readTest_26 {G : GX} {h : mH} {Q : mO → mH → Prop} {r0 : Nat} {v2 : Int32} (hi : Iv h) (k0 : kd r0 = (7, 7)) (K : WM G jX9_isWord [.ref 1, .float (UInt32.ofNat 15)] h (Aft G jX7_readTest 29 [some (.ref r0), some (.ref 1), some (.int v2), none] [] Q)) : Vw G jX7_readTest 26 [some (.ref r0), some (.ref 1), some (.int v2), none] [] h Q :=
  s_aload_n dX7_readTest_26 rfl (s_ldcS (n := 15) dX7_readTest_27 rfl (by decide) (s_callV (As := [.float (UInt32.ofNat 15)]) dX7_readTest_29 rfl lvX7_81 ⟨Nat.le_of_ble_eq_true rfl, Nat.le_of_ble_eq_true rfl⟩ (hi.sh rfl rfl) ⟨_, _, by decide, rfl⟩ rfl (Nat.le_of_ble_eq_true rfl) (K)))
theorem bX7_readTest_32 {G : GX} {h : mH} {Q : mO → mH → Prop} {r0 : Nat} {v2 : Int32} {vs0 : Int32} (hi : Iv h) (k0 : kd r0 = (7, 7)) (K : (vs0 = 0 → (vp_in ((gI h r0 4) - 1) 100 ∧ WM G jX7_testTold [.ref 1] (pI h (r0 + 3) (Int32.toNatClampNeg ((gI h r0 4) - 1)) (v2 - v2 / (2 : Int32) * (2 : Int32))) (Aft G jX7_readTest 56 [some (.ref r0), some (.ref 1), none, none] [] Q))) ∧ (¬ vs0 = 0 → WM G jX9_refuse [.ref 1, .int 2] h (Aft G jX7_readTest 37 [none, none, none, none] [] Q))) : Vw G jX7_readTest 32 [some (.ref r0), some (.ref 1), some (.int v2), none] [.int vs0] h Q :=
  s_if_eq 41 dX7_readTest_32 rfl (fun q0 => s_aload_n dX7_readTest_41 rfl (s_getR (v := .ref (r0 + 3)) dX7_readTest_42 flX7_20 rfl (hi.sh k0 rfl) (hi.rf (o := r0) (k := 2) (d := 3) k0 rfl) (s_aload_n dX7_readTest_45 rfl (s_getI dX7_readTest_46 flX7_29 (Or.inl rfl) (hi.sh k0 rfl) (s_iconst 1 dX7_readTest_49 (by decide) (s_isub dX7_readTest_50 (s_iload_n dX7_readTest_51 rfl (s_iconst 2 dX7_readTest_52 (by decide) (s_irem dX7_readTest_53 (by decide) (s_iastore dX7_readTest_54 (hi.sh (kd7_2 k0) rfl) (K.1 q0).1 (s_aload_n dX7_readTest_55 rfl (Vw.mask [true, true, false, false] (s_callS (As := [.ref 1]) dX7_readTest_56 rfl lsX7_108 ⟨Nat.le_of_ble_eq_true rfl, Nat.le_of_ble_eq_true rfl⟩ rfl (Nat.le_of_ble_eq_true rfl) ((K.1 q0).2)))))))))))))) (fun q0 => s_aload_n dX7_readTest_35 rfl (s_iconst 2 dX7_readTest_36 (by decide) (Vw.mask [false, false, false, false] (s_callV (As := [.int 2]) dX7_readTest_37 rfl lvX7_51 ⟨Nat.le_of_ble_eq_true rfl, Nat.le_of_ble_eq_true rfl⟩ (hi.sh rfl rfl) ⟨_, _, by decide, rfl⟩ rfl (Nat.le_of_ble_eq_true rfl) ((K.2 q0))))))
theorem bX7_readTest_40 {G : GX} {h : mH} {Q : mO → mH → Prop} {vs0 : Int32} (hi : Iv h) (K : (vs0 = 0 ∨ vs0 = 1) ∧ Q (.inl (some (.int vs0))) h) : Vw G jX7_readTest 40 [none, none, none, none] [.int vs0] h Q :=
  s_zreturn dX7_readTest_40 rfl K.1 K.2
theorem bX7_readTest_59 {G : GX} {h : mH} {Q : mO → mH → Prop} {r0 : Nat} {vs0 : Int32} (hi : Iv h) (k0 : kd r0 = (7, 7)) (K : (¬ vs0 = (-1) → WM G jX9_advance [.ref 1] h (Aft G jX7_readTest 72 [some (.ref r0), some (.ref 1), none, some (.int vs0)] [] Q)) ∧ (vs0 = (-1) → WM G jX9_refuse [.ref 1, .int 1] h (Aft G jX7_readTest 67 [none, none, none, none] [] Q))) : Vw G jX7_readTest 59 [some (.ref r0), some (.ref 1), none, none] [.int vs0] h Q :=
  s_istore_n dX7_readTest_59 (Nat.le_of_ble_eq_true rfl) rfl (s_iload_n dX7_readTest_60 rfl (s_iconst (-1) dX7_readTest_61 (by decide) (s_icmp_ne 71 dX7_readTest_62 rfl (fun q3 => s_aload_n dX7_readTest_71 rfl (s_callV (As := []) dX7_readTest_72 rfl lvX7_62 ⟨Nat.le_of_ble_eq_true rfl, Nat.le_of_ble_eq_true rfl⟩ (hi.sh rfl rfl) ⟨_, _, by decide, rfl⟩ rfl (Nat.le_of_ble_eq_true rfl) ((K.1 q3)))) (fun q3 => s_aload_n dX7_readTest_65 rfl (s_iconst 1 dX7_readTest_66 (by decide) (Vw.mask [false, false, false, false] (s_callV (As := [.int 1]) dX7_readTest_67 rfl lvX7_51 ⟨Nat.le_of_ble_eq_true rfl, Nat.le_of_ble_eq_true rfl⟩ (hi.sh rfl rfl) ⟨_, _, by decide, rfl⟩ rfl (Nat.le_of_ble_eq_true rfl) ((K.2 q3)))))))))
theorem bX7_readTest_70 {G : GX} {h : mH} {Q : mO → mH → Prop} {vs0 : Int32} (hi : Iv h) (K : (vs0 = 0 ∨ vs0 = 1) ∧ Q (.inl (some (.int vs0))) h) : Vw G jX7_readTest 70 [none, none, none, none] [.int vs0] h Q :=
  s_zreturn dX7_readTest_70 rfl K.1 K.2
theorem bX7_readTest_75 {G : GX} {h : mH} {Q : mO → mH → Prop} {r0 : Nat} {v3 : Int32} (hi : Iv h) (k0 : kd r0 = (7, 7)) (K : (v3 = 3 → WM G jX7_readNumber [.ref r0, .ref 1, .int 0, .int 3] h (Aft G jX7_readTest 98 [some (.ref r0), none, none, none] [] Q)) ∧ (¬ v3 = 3 → (vp_in ((gI h r0 4) - 1) 100 ∧ Q (.inl (some (.int 1))) (pI h (r0 + 2) (Int32.toNatClampNeg ((gI h r0 4) - 1)) v3)))) : Vw G jX7_readTest 75 [some (.ref r0), some (.ref 1), none, some (.int v3)] [] h Q :=
  s_iload_n dX7_readTest_75 rfl (s_iconst 3 dX7_readTest_76 (by decide) (s_icmp_eq 94 dX7_readTest_77 rfl (fun q2 => s_aload_n dX7_readTest_94 rfl (s_aload_n dX7_readTest_95 rfl (s_iconst 0 dX7_readTest_96 (by decide) (s_iconst 3 dX7_readTest_97 (by decide) (Vw.mask [true, false, false, false] (s_callV (As := [.ref 1, .int 0, .int 3]) dX7_readTest_98 rfl lvX7_65 ⟨Nat.le_of_ble_eq_true rfl, Nat.le_of_ble_eq_true rfl⟩ (hi.sh k0 rfl) ⟨_, _, by decide, rfl⟩ rfl (Nat.le_of_ble_eq_true rfl) ((K.1 q2)))))))) (fun q2 => s_aload_n dX7_readTest_80 rfl (s_getR (v := .ref (r0 + 2)) dX7_readTest_81 flX7_17 rfl (hi.sh k0 rfl) (hi.rf (o := r0) (k := 1) (d := 2) k0 rfl) (s_aload_n dX7_readTest_84 rfl (s_getI dX7_readTest_85 flX7_29 (Or.inl rfl) (hi.sh k0 rfl) (s_iconst 1 dX7_readTest_88 (by decide) (s_isub dX7_readTest_89 (s_iload_n dX7_readTest_90 rfl (s_iastore dX7_readTest_91 (hi.sh (kd7_1 k0) rfl) (K.2 q2).1 (s_iconst 1 dX7_readTest_92 (by decide) (s_zreturn dX7_readTest_93 rfl (by decide) (K.2 q2).2))))))))))))
theorem bX7_readTest_101 {G : GX} {h : mH} {Q : mO → mH → Prop} {r0 : Nat} {vs0 : Int32} (hi : Iv h) (k0 : kd r0 = (7, 7)) (K : (¬ vs0 = 0 → (vp_in ((gI h r0 4) - 1) 100 ∧ (vp_in ((gI h r0 4) - 1) 100 ∧ Q (.inl (some (.int 1))) (pI h (r0 + 2) (Int32.toNatClampNeg ((gI h r0 4) - 1)) ((gI h (r0 + 2) (Int32.toNatClampNeg ((gI h r0 4) - 1))) + 3))))) ∧ (vs0 = 0 → Q (.inl (some (.int 0))) h)) : Vw G jX7_readTest 101 [some (.ref r0), none, none, none] [.int vs0] h Q :=
  s_if_ne 106 dX7_readTest_101 rfl (fun q0 => s_aload_n dX7_readTest_106 rfl (s_getR (v := .ref (r0 + 2)) dX7_readTest_107 flX7_17 rfl (hi.sh k0 rfl) (hi.rf (o := r0) (k := 1) (d := 2) k0 rfl) (s_aload_n dX7_readTest_110 rfl (s_getI dX7_readTest_111 flX7_29 (Or.inl rfl) (hi.sh k0 rfl) (s_iconst 1 dX7_readTest_114 (by decide) (s_isub dX7_readTest_115 (s_dup2ir dX7_readTest_116 (s_iaload dX7_readTest_117 (hi.sh (kd7_1 k0) rfl) (K.1 q0).1 (s_iconst 3 dX7_readTest_118 (by decide) (s_iadd dX7_readTest_119 (s_iastore dX7_readTest_120 (hi.sh (kd7_1 k0) rfl) (K.1 q0).2.1 (s_iconst 1 dX7_readTest_121 (by decide) (s_zreturn dX7_readTest_122 rfl (by decide) (K.1 q0).2.2))))))))))))) (fun q0 => s_iconst 0 dX7_readTest_104 (by decide) (s_zreturn dX7_readTest_105 rfl (by decide) (K.2 q0)))
theorem eX7_readTest {G : GX} {h : mH} {Q : mO → mH → Prop} {r0 : Nat} (hi : Iv h) (k0 : kd r0 = (7, 7)) (K : Vw G jX7_readTest 2 [some (.ref r0), some (.ref 1), some (.int 0), none] [] h Q) : WM G jX7_readTest [.ref r0, .ref 1] h Q :=
  WM.body (ls := [some (.ref r0), some (.ref 1), none, none]) rfl (by decide +kernel) rfl (Nat.le_of_ble_eq_true rfl) rfl ((bX7_readTest_0 hi k0 K))
theorem dX7_readAct_0 : decode cX7_readAct 0 = .ok (.aload_n 1, 1) := by decide +kernel
theorem dX7_readAct_1 : decode cX7_readAct 1 = .ok (.invokestatic 55, 3) := by decide +kernel
theorem dX7_readAct_4 : decode cX7_readAct 4 = .ok (.istore_n 2, 1) := by decide +kernel
theorem dX7_readAct_5 : decode cX7_readAct 5 = .ok (.iload_n 2, 1) := by decide +kernel
theorem dX7_readAct_6 : decode cX7_readAct 6 = .ok (.iconst (-1), 1) := by decide +kernel
theorem dX7_readAct_7 : decode cX7_readAct 7 = .ok (.if_icmp .ne 9, 3) := by decide +kernel
theorem dX7_readAct_10 : decode cX7_readAct 10 = .ok (.aload_n 1, 1) := by decide +kernel
theorem dX7_readAct_11 : decode cX7_readAct 11 = .ok (.iconst 1, 1) := by decide +kernel
theorem dX7_readAct_12 : decode cX7_readAct 12 = .ok (.invokevirtual 51, 3) := by decide +kernel
theorem dX7_readAct_15 : decode cX7_readAct 15 = .ok (.ireturn, 1) := by decide +kernel
theorem dX7_readAct_16 : decode cX7_readAct 16 = .ok (.iload_n 2, 1) := by decide +kernel
theorem dX7_readAct_17 : decode cX7_readAct 17 = .ok (.iconst 5, 1) := by decide +kernel
theorem dX7_readAct_18 : decode cX7_readAct 18 = .ok (.if_icmp .eq 9, 3) := by decide +kernel
theorem dX7_readAct_21 : decode cX7_readAct 21 = .ok (.iload_n 2, 1) := by decide +kernel
theorem dX7_readAct_22 : decode cX7_readAct 22 = .ok (.bipush 6, 2) := by decide +kernel
theorem dX7_readAct_24 : decode cX7_readAct 24 = .ok (.if_icmp .ne 11, 3) := by decide +kernel
theorem dX7_readAct_27 : decode cX7_readAct 27 = .ok (.aload_n 0, 1) := by decide +kernel
theorem dX7_readAct_28 : decode cX7_readAct 28 = .ok (.getfield 33, 3) := by decide +kernel
theorem dX7_readAct_31 : decode cX7_readAct 31 = .ok (.iconst 5, 1) := by decide +kernel
theorem dX7_readAct_32 : decode cX7_readAct 32 = .ok (.if_icmp .ge 11, 3) := by decide +kernel
theorem dX7_readAct_35 : decode cX7_readAct 35 = .ok (.aload_n 0, 1) := by decide +kernel
theorem dX7_readAct_36 : decode cX7_readAct 36 = .ok (.iload_n 2, 1) := by decide +kernel
theorem dX7_readAct_37 : decode cX7_readAct 37 = .ok (.invokevirtual 59, 3) := by decide +kernel
theorem dX7_readAct_40 : decode cX7_readAct 40 = .ok (.ifCond .ne 9, 3) := by decide +kernel
theorem dX7_readAct_43 : decode cX7_readAct 43 = .ok (.aload_n 1, 1) := by decide +kernel
theorem dX7_readAct_44 : decode cX7_readAct 44 = .ok (.iconst 2, 1) := by decide +kernel
theorem dX7_readAct_45 : decode cX7_readAct 45 = .ok (.invokevirtual 51, 3) := by decide +kernel
theorem dX7_readAct_48 : decode cX7_readAct 48 = .ok (.ireturn, 1) := by decide +kernel
theorem dX7_readAct_49 : decode cX7_readAct 49 = .ok (.aload_n 1, 1) := by decide +kernel
theorem dX7_readAct_50 : decode cX7_readAct 50 = .ok (.invokevirtual 62, 3) := by decide +kernel
theorem dX7_readAct_53 : decode cX7_readAct 53 = .ok (.iload_n 2, 1) := by decide +kernel
theorem dX7_readAct_54 : decode cX7_readAct 54 = .ok (.tableswitch 115 0 6 #[42, 42, 52, 60, 115, 68, 93], 42) := by decide +kernel
theorem dX7_readAct_96 : decode cX7_readAct 96 = .ok (.aload_n 0, 1) := by decide +kernel
theorem dX7_readAct_97 : decode cX7_readAct 97 = .ok (.aload_n 1, 1) := by decide +kernel
theorem dX7_readAct_98 : decode cX7_readAct 98 = .ok (.iconst 1, 1) := by decide +kernel
theorem dX7_readAct_99 : decode cX7_readAct 99 = .ok (.sipush 200, 3) := by decide +kernel
theorem dX7_readAct_102 : decode cX7_readAct 102 = .ok (.invokevirtual 65, 3) := by decide +kernel
theorem dX7_readAct_105 : decode cX7_readAct 105 = .ok (.ireturn, 1) := by decide +kernel
theorem dX7_readAct_106 : decode cX7_readAct 106 = .ok (.aload_n 0, 1) := by decide +kernel
theorem dX7_readAct_107 : decode cX7_readAct 107 = .ok (.aload_n 1, 1) := by decide +kernel
theorem dX7_readAct_108 : decode cX7_readAct 108 = .ok (.bipush 9, 2) := by decide +kernel
theorem dX7_readAct_110 : decode cX7_readAct 110 = .ok (.invokevirtual 69, 3) := by decide +kernel
theorem dX7_readAct_113 : decode cX7_readAct 113 = .ok (.ireturn, 1) := by decide +kernel
theorem dX7_readAct_114 : decode cX7_readAct 114 = .ok (.aload_n 0, 1) := by decide +kernel
theorem dX7_readAct_115 : decode cX7_readAct 115 = .ok (.aload_n 1, 1) := by decide +kernel
theorem dX7_readAct_116 : decode cX7_readAct 116 = .ok (.bipush 90, 2) := by decide +kernel
theorem dX7_readAct_118 : decode cX7_readAct 118 = .ok (.invokevirtual 69, 3) := by decide +kernel
theorem dX7_readAct_121 : decode cX7_readAct 121 = .ok (.ireturn, 1) := by decide +kernel
theorem dX7_readAct_122 : decode cX7_readAct 122 = .ok (.aload_n 0, 1) := by decide +kernel
theorem dX7_readAct_123 : decode cX7_readAct 123 = .ok (.aload_n 1, 1) := by decide +kernel
theorem dX7_readAct_124 : decode cX7_readAct 124 = .ok (.iconst 0, 1) := by decide +kernel
theorem dX7_readAct_125 : decode cX7_readAct 125 = .ok (.bipush 20, 2) := by decide +kernel
theorem dX7_readAct_127 : decode cX7_readAct 127 = .ok (.invokevirtual 65, 3) := by decide +kernel
theorem dX7_readAct_130 : decode cX7_readAct 130 = .ok (.ifCond .eq 15, 3) := by decide +kernel
theorem dX7_readAct_133 : decode cX7_readAct 133 = .ok (.aload_n 0, 1) := by decide +kernel
theorem dX7_readAct_134 : decode cX7_readAct 134 = .ok (.aload_n 1, 1) := by decide +kernel
theorem dX7_readAct_135 : decode cX7_readAct 135 = .ok (.invokevirtual 73, 3) := by decide +kernel
theorem dX7_readAct_138 : decode cX7_readAct 138 = .ok (.ifCond .eq 7, 3) := by decide +kernel
theorem dX7_readAct_141 : decode cX7_readAct 141 = .ok (.iconst 1, 1) := by decide +kernel
theorem dX7_readAct_142 : decode cX7_readAct 142 = .ok (.goto 4, 3) := by decide +kernel
theorem dX7_readAct_145 : decode cX7_readAct 145 = .ok (.iconst 0, 1) := by decide +kernel
theorem dX7_readAct_146 : decode cX7_readAct 146 = .ok (.ireturn, 1) := by decide +kernel
theorem dX7_readAct_147 : decode cX7_readAct 147 = .ok (.aload_n 0, 1) := by decide +kernel
theorem dX7_readAct_148 : decode cX7_readAct 148 = .ok (.aload_n 1, 1) := by decide +kernel
theorem dX7_readAct_149 : decode cX7_readAct 149 = .ok (.invokevirtual 76, 3) := by decide +kernel
theorem dX7_readAct_152 : decode cX7_readAct 152 = .ok (.ifCond .eq 15, 3) := by decide +kernel
theorem dX7_readAct_155 : decode cX7_readAct 155 = .ok (.aload_n 0, 1) := by decide +kernel
theorem dX7_readAct_156 : decode cX7_readAct 156 = .ok (.aload_n 1, 1) := by decide +kernel
theorem dX7_readAct_157 : decode cX7_readAct 157 = .ok (.invokevirtual 73, 3) := by decide +kernel
theorem dX7_readAct_160 : decode cX7_readAct 160 = .ok (.ifCond .eq 7, 3) := by decide +kernel
theorem dX7_readAct_163 : decode cX7_readAct 163 = .ok (.iconst 1, 1) := by decide +kernel
theorem dX7_readAct_164 : decode cX7_readAct 164 = .ok (.goto 4, 3) := by decide +kernel
theorem dX7_readAct_167 : decode cX7_readAct 167 = .ok (.iconst 0, 1) := by decide +kernel
theorem dX7_readAct_168 : decode cX7_readAct 168 = .ok (.ireturn, 1) := by decide +kernel
theorem dX7_readAct_169 : decode cX7_readAct 169 = .ok (.iconst 1, 1) := by decide +kernel
theorem dX7_readAct_170 : decode cX7_readAct 170 = .ok (.ireturn, 1) := by decide +kernel
theorem bX7_readAct_0 {G : GX} {h : mH} {Q : mO → mH → Prop} {r0 : Nat} (hi : Iv h) (k0 : kd r0 = (7, 7)) (K : WM G jX7_verbTold [.ref 1] h (Aft G jX7_readAct 1 [some (.ref r0), some (.ref 1), none] [] Q)) : Vw G jX7_readAct 0 [some (.ref r0), some (.ref 1), none] [] h Q :=
  s_aload_n dX7_readAct_0 rfl (s_callS (As := [.ref 1]) dX7_readAct_1 rfl lsX7_55 ⟨Nat.le_of_ble_eq_true rfl, Nat.le_of_ble_eq_true rfl⟩ rfl (Nat.le_of_ble_eq_true rfl) (K))
theorem bX7_readAct_4 {G : GX} {h : mH} {Q : mO → mH → Prop} {r0 : Nat} {vs0 : Int32} (hi : Iv h) (k0 : kd r0 = (7, 7)) (K : (¬ vs0 = (-1) → ((vs0 = 5 → Vw G jX7_readAct 27 [some (.ref r0), some (.ref 1), some (.int vs0)] [] h Q) ∧ (¬ vs0 = 5 → ((¬ vs0 = 6 → Vw G jX7_readAct 35 [some (.ref r0), some (.ref 1), some (.int vs0)] [] h Q) ∧ (vs0 = 6 → Vw G jX7_readAct 27 [some (.ref r0), some (.ref 1), some (.int vs0)] [] h Q))))) ∧ (vs0 = (-1) → WM G jX9_refuse [.ref 1, .int 1] h (Aft G jX7_readAct 12 [none, none, none] [] Q))) : Vw G jX7_readAct 4 [some (.ref r0), some (.ref 1), none] [.int vs0] h Q :=
  s_istore_n dX7_readAct_4 (Nat.le_of_ble_eq_true rfl) rfl (s_iload_n dX7_readAct_5 rfl (s_iconst (-1) dX7_readAct_6 (by decide) (s_icmp_ne 16 dX7_readAct_7 rfl (fun q3 => s_iload_n dX7_readAct_16 rfl (s_iconst 5 dX7_readAct_17 (by decide) (s_icmp_eq 27 dX7_readAct_18 rfl (fun q6 => ((K.1 q3).1 q6)) (fun q6 => s_iload_n dX7_readAct_21 rfl (s_bipush 6 dX7_readAct_22 (by decide) (s_icmp_ne 35 dX7_readAct_24 rfl (fun q9 => (((K.1 q3).2 q6).1 q9)) (fun q9 => (((K.1 q3).2 q6).2 q9)))))))) (fun q3 => s_aload_n dX7_readAct_10 rfl (s_iconst 1 dX7_readAct_11 (by decide) (Vw.mask [false, false, false] (s_callV (As := [.int 1]) dX7_readAct_12 rfl lvX7_51 ⟨Nat.le_of_ble_eq_true rfl, Nat.le_of_ble_eq_true rfl⟩ (hi.sh rfl rfl) ⟨_, _, by decide, rfl⟩ rfl (Nat.le_of_ble_eq_true rfl) ((K.2 q3)))))))))
theorem bX7_readAct_15 {G : GX} {h : mH} {Q : mO → mH → Prop} {vs0 : Int32} (hi : Iv h) (K : (vs0 = 0 ∨ vs0 = 1) ∧ Q (.inl (some (.int vs0))) h) : Vw G jX7_readAct 15 [none, none, none] [.int vs0] h Q :=
  s_zreturn dX7_readAct_15 rfl K.1 K.2
theorem bX7_readAct_27 {G : GX} {h : mH} {Q : mO → mH → Prop} {r0 : Nat} {v2 : Int32} (hi : Iv h) (k0 : kd r0 = (7, 7)) (K : (5 ≤ (gI h r0 6) → Vw G jX7_readAct 43 [none, some (.ref 1), none] [] h Q) ∧ (¬ 5 ≤ (gI h r0 6) → Vw G jX7_readAct 35 [some (.ref r0), some (.ref 1), some (.int v2)] [] h Q)) : Vw G jX7_readAct 27 [some (.ref r0), some (.ref 1), some (.int v2)] [] h Q :=
  s_aload_n dX7_readAct_27 rfl (s_getI dX7_readAct_28 flX7_33 (Or.inl rfl) (hi.sh k0 rfl) (s_iconst 5 dX7_readAct_31 (by decide) (s_icmp_ge 43 dX7_readAct_32 rfl (fun q3 => Vw.mask [false, true, false] ((K.1 q3))) (fun q3 => (K.2 q3)))))
theorem bX7_readAct_35 {G : GX} {h : mH} {Q : mO → mH → Prop} {r0 : Nat} {v2 : Int32} (hi : Iv h) (k0 : kd r0 = (7, 7)) (K : WM G jX7_addStep [.ref r0, .int v2] h (Aft G jX7_readAct 37 [some (.ref r0), some (.ref 1), some (.int v2)] [] Q)) : Vw G jX7_readAct 35 [some (.ref r0), some (.ref 1), some (.int v2)] [] h Q :=
  s_aload_n dX7_readAct_35 rfl (s_iload_n dX7_readAct_36 rfl (s_callV (As := [.int v2]) dX7_readAct_37 rfl lvX7_59 ⟨Nat.le_of_ble_eq_true rfl, Nat.le_of_ble_eq_true rfl⟩ (hi.sh k0 rfl) ⟨_, _, by decide, rfl⟩ rfl (Nat.le_of_ble_eq_true rfl) (K)))
theorem bX7_readAct_40 {G : GX} {h : mH} {Q : mO → mH → Prop} {r0 : Nat} {v2 : Int32} {vs0 : Int32} (hi : Iv h) (k0 : kd r0 = (7, 7)) (K : (¬ vs0 = 0 → WM G jX9_advance [.ref 1] h (Aft G jX7_readAct 50 [some (.ref r0), some (.ref 1), some (.int v2)] [] Q)) ∧ (vs0 = 0 → Vw G jX7_readAct 43 [none, some (.ref 1), none] [] h Q)) : Vw G jX7_readAct 40 [some (.ref r0), some (.ref 1), some (.int v2)] [.int vs0] h Q :=
  s_if_ne 49 dX7_readAct_40 rfl (fun q0 => s_aload_n dX7_readAct_49 rfl (s_callV (As := []) dX7_readAct_50 rfl lvX7_62 ⟨Nat.le_of_ble_eq_true rfl, Nat.le_of_ble_eq_true rfl⟩ (hi.sh rfl rfl) ⟨_, _, by decide, rfl⟩ rfl (Nat.le_of_ble_eq_true rfl) ((K.1 q0)))) (fun q0 => Vw.mask [false, true, false] ((K.2 q0)))
theorem bX7_readAct_43 {G : GX} {h : mH} {Q : mO → mH → Prop} (hi : Iv h) (K : WM G jX9_refuse [.ref 1, .int 2] h (Aft G jX7_readAct 45 [none, none, none] [] Q)) : Vw G jX7_readAct 43 [none, some (.ref 1), none] [] h Q :=
  s_aload_n dX7_readAct_43 rfl (s_iconst 2 dX7_readAct_44 (by decide) (Vw.mask [false, false, false] (s_callV (As := [.int 2]) dX7_readAct_45 rfl lvX7_51 ⟨Nat.le_of_ble_eq_true rfl, Nat.le_of_ble_eq_true rfl⟩ (hi.sh rfl rfl) ⟨_, _, by decide, rfl⟩ rfl (Nat.le_of_ble_eq_true rfl) (K))))
theorem bX7_readAct_48 {G : GX} {h : mH} {Q : mO → mH → Prop} {vs0 : Int32} (hi : Iv h) (K : (vs0 = 0 ∨ vs0 = 1) ∧ Q (.inl (some (.int vs0))) h) : Vw G jX7_readAct 48 [none, none, none] [.int vs0] h Q :=
  s_zreturn dX7_readAct_48 rfl K.1 K.2
theorem bX7_readAct_53 {G : GX} {h : mH} {Q : mO → mH → Prop} {r0 : Nat} {v2 : Int32} (hi : Iv h) (k0 : kd r0 = (7, 7)) (K : (v2 = 0 → WM G jX7_readNumber [.ref r0, .ref 1, .int 1, .int 200] h (Aft G jX7_readAct 102 [none, none, none] [] Q)) ∧ (v2 = 1 → WM G jX7_readNumber [.ref r0, .ref 1, .int 1, .int 200] h (Aft G jX7_readAct 102 [none, none, none] [] Q)) ∧ (v2 = 2 → WM G jX7_readChange [.ref r0, .ref 1, .int 9] h (Aft G jX7_readAct 110 [none, none, none] [] Q)) ∧ (v2 = 3 → WM G jX7_readChange [.ref r0, .ref 1, .int 90] h (Aft G jX7_readAct 118 [none, none, none] [] Q)) ∧ (v2 = 4 → Q (.inl (some (.int 1))) h) ∧ (v2 = 5 → WM G jX7_readNumber [.ref r0, .ref 1, .int 0, .int 20] h (Aft G jX7_readAct 127 [some (.ref r0), some (.ref 1), none] [] Q)) ∧ (v2 = 6 → WM G jX7_readTest [.ref r0, .ref 1] h (Aft G jX7_readAct 149 [some (.ref r0), some (.ref 1), none] [] Q)) ∧ (¬ v2 = 0 → ¬ v2 = 1 → ¬ v2 = 2 → ¬ v2 = 3 → ¬ v2 = 4 → ¬ v2 = 5 → ¬ v2 = 6 → Q (.inl (some (.int 1))) h)) : Vw G jX7_readAct 53 [some (.ref r0), some (.ref 1), some (.int v2)] [] h Q :=
  s_iload_n dX7_readAct_53 rfl (Decidable.byCases (fun e1_0 => s_tableIn 96 dX7_readAct_54 (by rw [e1_0] <;> decide) (by rw [e1_0] <;> decide) (by rw [e1_0] <;> rfl) rfl (s_aload_n dX7_readAct_96 rfl (s_aload_n dX7_readAct_97 rfl (s_iconst 1 dX7_readAct_98 (by decide) (s_sipush 200 dX7_readAct_99 (by decide) (Vw.mask [false, false, false] (s_callV (As := [.ref 1, .int 1, .int 200]) dX7_readAct_102 rfl lvX7_65 ⟨Nat.le_of_ble_eq_true rfl, Nat.le_of_ble_eq_true rfl⟩ (hi.sh k0 rfl) ⟨_, _, by decide, rfl⟩ rfl (Nat.le_of_ble_eq_true rfl) ((K.1 e1_0))))))))) (fun e1_0 => Decidable.byCases (fun e1_1 => s_tableIn 96 dX7_readAct_54 (by rw [e1_1] <;> decide) (by rw [e1_1] <;> decide) (by rw [e1_1] <;> rfl) rfl (s_aload_n dX7_readAct_96 rfl (s_aload_n dX7_readAct_97 rfl (s_iconst 1 dX7_readAct_98 (by decide) (s_sipush 200 dX7_readAct_99 (by decide) (Vw.mask [false, false, false] (s_callV (As := [.ref 1, .int 1, .int 200]) dX7_readAct_102 rfl lvX7_65 ⟨Nat.le_of_ble_eq_true rfl, Nat.le_of_ble_eq_true rfl⟩ (hi.sh k0 rfl) ⟨_, _, by decide, rfl⟩ rfl (Nat.le_of_ble_eq_true rfl) ((K.2.1 e1_1))))))))) (fun e1_1 => Decidable.byCases (fun e1_2 => s_tableIn 106 dX7_readAct_54 (by rw [e1_2] <;> decide) (by rw [e1_2] <;> decide) (by rw [e1_2] <;> rfl) rfl (s_aload_n dX7_readAct_106 rfl (s_aload_n dX7_readAct_107 rfl (s_bipush 9 dX7_readAct_108 (by decide) (Vw.mask [false, false, false] (s_callV (As := [.ref 1, .int 9]) dX7_readAct_110 rfl lvX7_69 ⟨Nat.le_of_ble_eq_true rfl, Nat.le_of_ble_eq_true rfl⟩ (hi.sh k0 rfl) ⟨_, _, by decide, rfl⟩ rfl (Nat.le_of_ble_eq_true rfl) ((K.2.2.1 e1_2)))))))) (fun e1_2 => Decidable.byCases (fun e1_3 => s_tableIn 114 dX7_readAct_54 (by rw [e1_3] <;> decide) (by rw [e1_3] <;> decide) (by rw [e1_3] <;> rfl) rfl (s_aload_n dX7_readAct_114 rfl (s_aload_n dX7_readAct_115 rfl (s_bipush 90 dX7_readAct_116 (by decide) (Vw.mask [false, false, false] (s_callV (As := [.ref 1, .int 90]) dX7_readAct_118 rfl lvX7_69 ⟨Nat.le_of_ble_eq_true rfl, Nat.le_of_ble_eq_true rfl⟩ (hi.sh k0 rfl) ⟨_, _, by decide, rfl⟩ rfl (Nat.le_of_ble_eq_true rfl) ((K.2.2.2.1 e1_3)))))))) (fun e1_3 => Decidable.byCases (fun e1_4 => s_tableIn 169 dX7_readAct_54 (by rw [e1_4] <;> decide) (by rw [e1_4] <;> decide) (by rw [e1_4] <;> rfl) rfl (s_iconst 1 dX7_readAct_169 (by decide) (s_zreturn dX7_readAct_170 rfl (by decide) (K.2.2.2.2.1 e1_4)))) (fun e1_4 => Decidable.byCases (fun e1_5 => s_tableIn 122 dX7_readAct_54 (by rw [e1_5] <;> decide) (by rw [e1_5] <;> decide) (by rw [e1_5] <;> rfl) rfl (s_aload_n dX7_readAct_122 rfl (s_aload_n dX7_readAct_123 rfl (s_iconst 0 dX7_readAct_124 (by decide) (s_bipush 20 dX7_readAct_125 (by decide) (Vw.mask [true, true, false] (s_callV (As := [.ref 1, .int 0, .int 20]) dX7_readAct_127 rfl lvX7_65 ⟨Nat.le_of_ble_eq_true rfl, Nat.le_of_ble_eq_true rfl⟩ (hi.sh k0 rfl) ⟨_, _, by decide, rfl⟩ rfl (Nat.le_of_ble_eq_true rfl) ((K.2.2.2.2.2.1 e1_5))))))))) (fun e1_5 => Decidable.byCases (fun e1_6 => s_tableIn 147 dX7_readAct_54 (by rw [e1_6] <;> decide) (by rw [e1_6] <;> decide) (by rw [e1_6] <;> rfl) rfl (s_aload_n dX7_readAct_147 rfl (s_aload_n dX7_readAct_148 rfl (Vw.mask [true, true, false] (s_callV (As := [.ref 1]) dX7_readAct_149 rfl lvX7_76 ⟨Nat.le_of_ble_eq_true rfl, Nat.le_of_ble_eq_true rfl⟩ (hi.sh k0 rfl) ⟨_, _, by decide, rfl⟩ rfl (Nat.le_of_ble_eq_true rfl) ((K.2.2.2.2.2.2.1 e1_6))))))) (fun e1_6 => s_tableOut 169 dX7_readAct_54 (sw_out [0, 1, 2, 3, 4, 5, 6] (by simp only [List.forall_mem_cons]; exact ⟨e1_0, e1_1, e1_2, e1_3, e1_4, e1_5, e1_6, fun _ hh => nomatch hh⟩) (fun k z1 z2 => by rcases (show k = 0 ∨ k = 1 ∨ k = 2 ∨ k = 3 ∨ k = 4 ∨ k = 5 ∨ k = 6 by omega) with rfl | rfl | rfl | rfl | rfl | rfl | rfl <;> decide)) rfl (s_iconst 1 dX7_readAct_169 (by decide) (s_zreturn dX7_readAct_170 rfl (by decide) (K.2.2.2.2.2.2.2 e1_0 e1_1 e1_2 e1_3 e1_4 e1_5 e1_6)))))))))))
theorem bX7_readAct_105 {G : GX} {h : mH} {Q : mO → mH → Prop} {vs0 : Int32} (hi : Iv h) (K : (vs0 = 0 ∨ vs0 = 1) ∧ Q (.inl (some (.int vs0))) h) : Vw G jX7_readAct 105 [none, none, none] [.int vs0] h Q :=
  s_zreturn dX7_readAct_105 rfl K.1 K.2
theorem bX7_readAct_113 {G : GX} {h : mH} {Q : mO → mH → Prop} {vs0 : Int32} (hi : Iv h) (K : (vs0 = 0 ∨ vs0 = 1) ∧ Q (.inl (some (.int vs0))) h) : Vw G jX7_readAct 113 [none, none, none] [.int vs0] h Q :=
  s_zreturn dX7_readAct_113 rfl K.1 K.2
theorem bX7_readAct_121 {G : GX} {h : mH} {Q : mO → mH → Prop} {vs0 : Int32} (hi : Iv h) (K : (vs0 = 0 ∨ vs0 = 1) ∧ Q (.inl (some (.int vs0))) h) : Vw G jX7_readAct 121 [none, none, none] [.int vs0] h Q :=
  s_zreturn dX7_readAct_121 rfl K.1 K.2
theorem bX7_readAct_130 {G : GX} {h : mH} {Q : mO → mH → Prop} {r0 : Nat} {vs0 : Int32} (hi : Iv h) (k0 : kd r0 = (7, 7)) (K : (vs0 = 0 → Q (.inl (some (.int 0))) h) ∧ (¬ vs0 = 0 → WM G jX7_openBlock [.ref r0, .ref 1] h (Aft G jX7_readAct 135 [none, none, none] [] Q))) : Vw G jX7_readAct 130 [some (.ref r0), some (.ref 1), none] [.int vs0] h Q :=
  s_if_eq 145 dX7_readAct_130 rfl (fun q0 => s_iconst 0 dX7_readAct_145 (by decide) (s_zreturn dX7_readAct_146 rfl (by decide) (K.1 q0))) (fun q0 => s_aload_n dX7_readAct_133 rfl (s_aload_n dX7_readAct_134 rfl (Vw.mask [false, false, false] (s_callV (As := [.ref 1]) dX7_readAct_135 rfl lvX7_73 ⟨Nat.le_of_ble_eq_true rfl, Nat.le_of_ble_eq_true rfl⟩ (hi.sh k0 rfl) ⟨_, _, by decide, rfl⟩ rfl (Nat.le_of_ble_eq_true rfl) ((K.2 q0))))))
theorem bX7_readAct_138 {G : GX} {h : mH} {Q : mO → mH → Prop} {vs0 : Int32} (hi : Iv h) (K : (vs0 = 0 → Q (.inl (some (.int 0))) h) ∧ (¬ vs0 = 0 → Q (.inl (some (.int 1))) h)) : Vw G jX7_readAct 138 [none, none, none] [.int vs0] h Q :=
  s_if_eq 145 dX7_readAct_138 rfl (fun q0 => s_iconst 0 dX7_readAct_145 (by decide) (s_zreturn dX7_readAct_146 rfl (by decide) (K.1 q0))) (fun q0 => s_iconst 1 dX7_readAct_141 (by decide) (s_goto 146 dX7_readAct_142 rfl (s_zreturn dX7_readAct_146 rfl (by decide) (K.2 q0))))
theorem bX7_readAct_152 {G : GX} {h : mH} {Q : mO → mH → Prop} {r0 : Nat} {vs0 : Int32} (hi : Iv h) (k0 : kd r0 = (7, 7)) (K : (vs0 = 0 → Q (.inl (some (.int 0))) h) ∧ (¬ vs0 = 0 → WM G jX7_openBlock [.ref r0, .ref 1] h (Aft G jX7_readAct 157 [none, none, none] [] Q))) : Vw G jX7_readAct 152 [some (.ref r0), some (.ref 1), none] [.int vs0] h Q :=
  s_if_eq 167 dX7_readAct_152 rfl (fun q0 => s_iconst 0 dX7_readAct_167 (by decide) (s_zreturn dX7_readAct_168 rfl (by decide) (K.1 q0))) (fun q0 => s_aload_n dX7_readAct_155 rfl (s_aload_n dX7_readAct_156 rfl (Vw.mask [false, false, false] (s_callV (As := [.ref 1]) dX7_readAct_157 rfl lvX7_73 ⟨Nat.le_of_ble_eq_true rfl, Nat.le_of_ble_eq_true rfl⟩ (hi.sh k0 rfl) ⟨_, _, by decide, rfl⟩ rfl (Nat.le_of_ble_eq_true rfl) ((K.2 q0))))))
theorem bX7_readAct_160 {G : GX} {h : mH} {Q : mO → mH → Prop} {vs0 : Int32} (hi : Iv h) (K : (vs0 = 0 → Q (.inl (some (.int 0))) h) ∧ (¬ vs0 = 0 → Q (.inl (some (.int 1))) h)) : Vw G jX7_readAct 160 [none, none, none] [.int vs0] h Q :=
  s_if_eq 167 dX7_readAct_160 rfl (fun q0 => s_iconst 0 dX7_readAct_167 (by decide) (s_zreturn dX7_readAct_168 rfl (by decide) (K.1 q0))) (fun q0 => s_iconst 1 dX7_readAct_163 (by decide) (s_goto 168 dX7_readAct_164 rfl (s_zreturn dX7_readAct_168 rfl (by decide) (K.2 q0))))
theorem eX7_readAct {G : GX} {h : mH} {Q : mO → mH → Prop} {r0 : Nat} (hi : Iv h) (k0 : kd r0 = (7, 7)) (K : WM G jX7_verbTold [.ref 1] h (Aft G jX7_readAct 1 [some (.ref r0), some (.ref 1), none] [] Q)) : WM G jX7_readAct [.ref r0, .ref 1] h Q :=
  WM.body (ls := [some (.ref r0), some (.ref 1), none]) rfl (by decide +kernel) rfl (Nat.le_of_ble_eq_true rfl) rfl ((bX7_readAct_0 hi k0 K))
theorem dX7_read_0 : decode cX7_read 0 = .ok (.aload_n 0, 1) := by decide +kernel
theorem dX7_read_1 : decode cX7_read 1 = .ok (.iconst 0, 1) := by decide +kernel
theorem dX7_read_2 : decode cX7_read 2 = .ok (.putfield 29, 3) := by decide +kernel
theorem dX7_read_5 : decode cX7_read 5 = .ok (.aload_n 0, 1) := by decide +kernel
theorem dX7_read_6 : decode cX7_read 6 = .ok (.iconst 0, 1) := by decide +kernel
theorem dX7_read_7 : decode cX7_read 7 = .ok (.putfield 33, 3) := by decide +kernel
theorem dX7_read_10 : decode cX7_read 10 = .ok (.iconst 0, 1) := by decide +kernel
theorem dX7_read_11 : decode cX7_read 11 = .ok (.istore_n 2, 1) := by decide +kernel
theorem dX7_read_12 : decode cX7_read 12 = .ok (.iload_n 2, 1) := by decide +kernel
theorem dX7_read_13 : decode cX7_read 13 = .ok (.sipush 400, 3) := by decide +kernel
theorem dX7_read_16 : decode cX7_read 16 = .ok (.if_icmp .ge 52, 3) := by decide +kernel
theorem dX7_read_19 : decode cX7_read 19 = .ok (.aload_n 1, 1) := by decide +kernel
theorem dX7_read_20 : decode cX7_read 20 = .ok (.invokevirtual 36, 3) := by decide +kernel
theorem dX7_read_23 : decode cX7_read 23 = .ok (.ifCond .ne 45, 3) := by decide +kernel
theorem dX7_read_26 : decode cX7_read 26 = .ok (.aload_n 0, 1) := by decide +kernel
theorem dX7_read_27 : decode cX7_read 27 = .ok (.getfield 33, 3) := by decide +kernel
theorem dX7_read_30 : decode cX7_read 30 = .ok (.ifCond .le 20, 3) := by decide +kernel
theorem dX7_read_33 : decode cX7_read 33 = .ok (.aload_n 1, 1) := by decide +kernel
theorem dX7_read_34 : decode cX7_read 34 = .ok (.bipush 41, 2) := by decide +kernel
theorem dX7_read_36 : decode cX7_read 36 = .ok (.invokevirtual 40, 3) := by decide +kernel
theorem dX7_read_39 : decode cX7_read 39 = .ok (.ifCond .eq 11, 3) := by decide +kernel
theorem dX7_read_42 : decode cX7_read 42 = .ok (.aload_n 0, 1) := by decide +kernel
theorem dX7_read_43 : decode cX7_read 43 = .ok (.aload_n 1, 1) := by decide +kernel
theorem dX7_read_44 : decode cX7_read 44 = .ok (.invokevirtual 44, 3) := by decide +kernel
theorem dX7_read_47 : decode cX7_read 47 = .ok (.goto 8, 3) := by decide +kernel
theorem dX7_read_50 : decode cX7_read 50 = .ok (.aload_n 0, 1) := by decide +kernel
theorem dX7_read_51 : decode cX7_read 51 = .ok (.aload_n 1, 1) := by decide +kernel
theorem dX7_read_52 : decode cX7_read 52 = .ok (.invokevirtual 48, 3) := by decide +kernel
theorem dX7_read_55 : decode cX7_read 55 = .ok (.istore_n 3, 1) := by decide +kernel
theorem dX7_read_56 : decode cX7_read 56 = .ok (.iload_n 3, 1) := by decide +kernel
theorem dX7_read_57 : decode cX7_read 57 = .ok (.ifCond .ne 5, 3) := by decide +kernel
theorem dX7_read_60 : decode cX7_read 60 = .ok (.iconst 0, 1) := by decide +kernel
theorem dX7_read_61 : decode cX7_read 61 = .ok (.ireturn, 1) := by decide +kernel
theorem dX7_read_62 : decode cX7_read 62 = .ok (.iinc 2 1, 3) := by decide +kernel
theorem dX7_read_65 : decode cX7_read 65 = .ok (.goto (-53), 3) := by decide +kernel
theorem dX7_read_68 : decode cX7_read 68 = .ok (.aload_n 0, 1) := by decide +kernel
theorem dX7_read_69 : decode cX7_read 69 = .ok (.getfield 33, 3) := by decide +kernel
theorem dX7_read_72 : decode cX7_read 72 = .ok (.ifCond .eq 11, 3) := by decide +kernel
theorem dX7_read_75 : decode cX7_read 75 = .ok (.aload_n 1, 1) := by decide +kernel
theorem dX7_read_76 : decode cX7_read 76 = .ok (.iconst 1, 1) := by decide +kernel
theorem dX7_read_77 : decode cX7_read 77 = .ok (.invokevirtual 51, 3) := by decide +kernel
theorem dX7_read_80 : decode cX7_read 80 = .ok (.ifCond .eq 7, 3) := by decide +kernel
theorem dX7_read_83 : decode cX7_read 83 = .ok (.iconst 1, 1) := by decide +kernel
theorem dX7_read_84 : decode cX7_read 84 = .ok (.goto 4, 3) := by decide +kernel
theorem dX7_read_87 : decode cX7_read 87 = .ok (.iconst 0, 1) := by decide +kernel
theorem dX7_read_88 : decode cX7_read 88 = .ok (.ireturn, 1) := by decide +kernel
theorem bX7_read_0 {G : GX} {h : mH} {Q : mO → mH → Prop} {r0 : Nat} (hi : Iv h) (k0 : kd r0 = (7, 7)) (K : Vw G jX7_read 12 [some (.ref r0), some (.ref 1), some (.int 0), none] [] (pI (pI h r0 4 0) r0 6 0) Q) : Vw G jX7_read 0 [some (.ref r0), some (.ref 1), none, none] [] h Q :=
  s_aload_n dX7_read_0 rfl (s_iconst 0 dX7_read_1 (by decide) (s_putI dX7_read_2 flX7_29 ff7_4 rfl (hi.sh k0 rfl) (s_aload_n dX7_read_5 rfl (s_iconst 0 dX7_read_6 (by decide) (s_putI dX7_read_7 flX7_33 ff7_6 rfl (hi.sh k0 rfl) (s_iconst 0 dX7_read_10 (by decide) (s_istore_n dX7_read_11 (Nat.le_of_ble_eq_true rfl) rfl (K))))))))
theorem bX7_read_12 {G : GX} {h : mH} {Q : mO → mH → Prop} {r0 : Nat} {v2 : Int32} (hi : Iv h) (k0 : kd r0 = (7, 7)) (K : (400 ≤ v2 → Vw G jX7_read 68 [some (.ref r0), some (.ref 1), none, none] [] h Q) ∧ (¬ 400 ≤ v2 → ((¬ (fX9_isEnd h) = 0 → Vw G jX7_read 68 [some (.ref r0), some (.ref 1), none, none] [] h Q) ∧ ((fX9_isEnd h) = 0 → (((gI h r0 6) ≤ 0 → Vw G jX7_read 50 [some (.ref r0), some (.ref 1), some (.int v2), none] [] h Q) ∧ (¬ (gI h r0 6) ≤ 0 → (((fX9_isSign h 41) = 0 → Vw G jX7_read 50 [some (.ref r0), some (.ref 1), some (.int v2), none] [] h Q) ∧ (¬ (fX9_isSign h 41) = 0 → WM G jX7_closeBlock [.ref r0, .ref 1] h (Aft G jX7_read 44 [some (.ref r0), some (.ref 1), some (.int v2), none] [] Q))))))))) : Vw G jX7_read 12 [some (.ref r0), some (.ref 1), some (.int v2), none] [] h Q :=
  s_iload_n dX7_read_12 rfl (s_sipush 400 dX7_read_13 (by decide) (s_icmp_ge 68 dX7_read_16 rfl (fun q2 => Vw.mask [true, true, false, false] ((K.1 q2))) (fun q2 => s_aload_n dX7_read_19 rfl (s_callV (As := []) dX7_read_20 rfl lvX7_36 ⟨Nat.le_of_ble_eq_true rfl, Nat.le_of_ble_eq_true rfl⟩ (hi.sh rfl rfl) ⟨_, _, by decide, rfl⟩ rfl (Nat.le_of_ble_eq_true rfl) (mX9_isEnd hi   (s_if_ne 68 dX7_read_23 rfl (fun q5 => Vw.mask [true, true, false, false] (((K.2 q2).1 q5))) (fun q5 => s_aload_n dX7_read_26 rfl (s_getI dX7_read_27 flX7_33 (Or.inl rfl) (hi.sh k0 rfl) (s_if_le 50 dX7_read_30 rfl (fun q8 => (((K.2 q2).2 q5).1 q8)) (fun q8 => s_aload_n dX7_read_33 rfl (s_bipush 41 dX7_read_34 (by decide) (s_callV (As := [.int 41]) dX7_read_36 rfl lvX7_40 ⟨Nat.le_of_ble_eq_true rfl, Nat.le_of_ble_eq_true rfl⟩ (hi.sh rfl rfl) ⟨_, _, by decide, rfl⟩ rfl (Nat.le_of_ble_eq_true rfl) (mX9_isSign hi   (s_if_eq 50 dX7_read_39 rfl (fun q12 => ((((K.2 q2).2 q5).2 q8).1 q12)) (fun q12 => s_aload_n dX7_read_42 rfl (s_aload_n dX7_read_43 rfl (s_callV (As := [.ref 1]) dX7_read_44 rfl lvX7_44 ⟨Nat.le_of_ble_eq_true rfl, Nat.le_of_ble_eq_true rfl⟩ (hi.sh k0 rfl) ⟨_, _, by decide, rfl⟩ rfl (Nat.le_of_ble_eq_true rfl) (((((K.2 q2).2 q5).2 q8).2 q12)))))))))))))))))))
theorem bX7_read_47 {G : GX} {h : mH} {Q : mO → mH → Prop} {r0 : Nat} {v2 : Int32} {vs0 : Int32} (hi : Iv h) (k0 : kd r0 = (7, 7)) (K : Vw G jX7_read 55 [some (.ref r0), some (.ref 1), some (.int v2), none] [.int vs0] h Q) : Vw G jX7_read 47 [some (.ref r0), some (.ref 1), some (.int v2), none] [.int vs0] h Q :=
  s_goto 55 dX7_read_47 rfl (K)
theorem bX7_read_50 {G : GX} {h : mH} {Q : mO → mH → Prop} {r0 : Nat} {v2 : Int32} (hi : Iv h) (k0 : kd r0 = (7, 7)) (K : WM G jX7_readAct [.ref r0, .ref 1] h (Aft G jX7_read 52 [some (.ref r0), some (.ref 1), some (.int v2), none] [] Q)) : Vw G jX7_read 50 [some (.ref r0), some (.ref 1), some (.int v2), none] [] h Q :=
  s_aload_n dX7_read_50 rfl (s_aload_n dX7_read_51 rfl (s_callV (As := [.ref 1]) dX7_read_52 rfl lvX7_48 ⟨Nat.le_of_ble_eq_true rfl, Nat.le_of_ble_eq_true rfl⟩ (hi.sh k0 rfl) ⟨_, _, by decide, rfl⟩ rfl (Nat.le_of_ble_eq_true rfl) (K)))
theorem bX7_read_55 {G : GX} {h : mH} {Q : mO → mH → Prop} {r0 : Nat} {v2 : Int32} {vs0 : Int32} (hi : Iv h) (k0 : kd r0 = (7, 7)) (K : (¬ vs0 = 0 → Vw G jX7_read 12 [some (.ref r0), some (.ref 1), some (.int (v2 + 1)), none] [] h Q) ∧ (vs0 = 0 → Q (.inl (some (.int 0))) h)) : Vw G jX7_read 55 [some (.ref r0), some (.ref 1), some (.int v2), none] [.int vs0] h Q :=
  s_istore_n dX7_read_55 (Nat.le_of_ble_eq_true rfl) rfl (s_iload_n dX7_read_56 rfl (s_if_ne 62 dX7_read_57 rfl (fun q2 => s_iinc 1 dX7_read_62 rfl (by decide) (Nat.le_of_ble_eq_true rfl) rfl (s_goto 12 dX7_read_65 rfl (Vw.mask [true, true, true, false] ((K.1 q2))))) (fun q2 => s_iconst 0 dX7_read_60 (by decide) (s_zreturn dX7_read_61 rfl (by decide) (K.2 q2)))))
theorem bX7_read_68 {G : GX} {h : mH} {Q : mO → mH → Prop} {r0 : Nat} (hi : Iv h) (k0 : kd r0 = (7, 7)) (K : ((gI h r0 6) = 0 → Q (.inl (some (.int 1))) h) ∧ (¬ (gI h r0 6) = 0 → WM G jX9_refuse [.ref 1, .int 1] h (Aft G jX7_read 77 [none, none, none, none] [] Q))) : Vw G jX7_read 68 [some (.ref r0), some (.ref 1), none, none] [] h Q :=
  s_aload_n dX7_read_68 rfl (s_getI dX7_read_69 flX7_33 (Or.inl rfl) (hi.sh k0 rfl) (s_if_eq 83 dX7_read_72 rfl (fun q2 => s_iconst 1 dX7_read_83 (by decide) (s_goto 88 dX7_read_84 rfl (s_zreturn dX7_read_88 rfl (by decide) (K.1 q2)))) (fun q2 => s_aload_n dX7_read_75 rfl (s_iconst 1 dX7_read_76 (by decide) (Vw.mask [false, false, false, false] (s_callV (As := [.int 1]) dX7_read_77 rfl lvX7_51 ⟨Nat.le_of_ble_eq_true rfl, Nat.le_of_ble_eq_true rfl⟩ (hi.sh rfl rfl) ⟨_, _, by decide, rfl⟩ rfl (Nat.le_of_ble_eq_true rfl) ((K.2 q2))))))))
theorem bX7_read_80 {G : GX} {h : mH} {Q : mO → mH → Prop} {vs0 : Int32} (hi : Iv h) (K : (vs0 = 0 → Q (.inl (some (.int 0))) h) ∧ (¬ vs0 = 0 → Q (.inl (some (.int 1))) h)) : Vw G jX7_read 80 [none, none, none, none] [.int vs0] h Q :=
  s_if_eq 87 dX7_read_80 rfl (fun q0 => s_iconst 0 dX7_read_87 (by decide) (s_zreturn dX7_read_88 rfl (by decide) (K.1 q0))) (fun q0 => s_iconst 1 dX7_read_83 (by decide) (s_goto 88 dX7_read_84 rfl (s_zreturn dX7_read_88 rfl (by decide) (K.2 q0))))
theorem eX7_read {G : GX} {h : mH} {Q : mO → mH → Prop} {r0 : Nat} (hi : Iv h) (k0 : kd r0 = (7, 7)) (K : Vw G jX7_read 12 [some (.ref r0), some (.ref 1), some (.int 0), none] [] (pI (pI h r0 4 0) r0 6 0) Q) : WM G jX7_read [.ref r0, .ref 1] h Q :=
  WM.body (ls := [some (.ref r0), some (.ref 1), none, none]) rfl (by decide +kernel) rfl (Nat.le_of_ble_eq_true rfl) rfl ((bX7_read_0 hi k0 K))
