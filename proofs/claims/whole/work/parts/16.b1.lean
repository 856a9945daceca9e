theorem dX1_findPlaces_0 : decode cX1_findPlaces 0 = .ok (.iconst 0, 1) := by decide +kernel
theorem dX1_findPlaces_1 : decode cX1_findPlaces 1 = .ok (.istore 4, 2) := by decide +kernel
theorem dX1_findPlaces_3 : decode cX1_findPlaces 3 = .ok (.iload 4, 2) := by decide +kernel
theorem dX1_findPlaces_5 : decode cX1_findPlaces 5 = .ok (.iconst 4, 1) := by decide +kernel
theorem dX1_findPlaces_6 : decode cX1_findPlaces 6 = .ok (.if_icmp .ge 81, 3) := by decide +kernel
theorem dX1_findPlaces_9 : decode cX1_findPlaces 9 = .ok (.iconst 0, 1) := by decide +kernel
theorem dX1_findPlaces_10 : decode cX1_findPlaces 10 = .ok (.istore 5, 2) := by decide +kernel
theorem dX1_findPlaces_12 : decode cX1_findPlaces 12 = .ok (.iload 5, 2) := by decide +kernel
theorem dX1_findPlaces_14 : decode cX1_findPlaces 14 = .ok (.iload_n 3, 1) := by decide +kernel
theorem dX1_findPlaces_15 : decode cX1_findPlaces 15 = .ok (.if_icmp .gt 66, 3) := by decide +kernel
theorem dX1_findPlaces_18 : decode cX1_findPlaces 18 = .ok (.aload_n 1, 1) := by decide +kernel
theorem dX1_findPlaces_19 : decode cX1_findPlaces 19 = .ok (.getfield 51, 3) := by decide +kernel
theorem dX1_findPlaces_22 : decode cX1_findPlaces 22 = .ok (.iload 4, 2) := by decide +kernel
theorem dX1_findPlaces_24 : decode cX1_findPlaces 24 = .ok (.iload 5, 2) := by decide +kernel
theorem dX1_findPlaces_26 : decode cX1_findPlaces 26 = .ok (.iastore, 1) := by decide +kernel
theorem dX1_findPlaces_27 : decode cX1_findPlaces 27 = .ok (.iconst 0, 1) := by decide +kernel
theorem dX1_findPlaces_28 : decode cX1_findPlaces 28 = .ok (.istore 6, 2) := by decide +kernel
theorem dX1_findPlaces_30 : decode cX1_findPlaces 30 = .ok (.iload 6, 2) := by decide +kernel
theorem dX1_findPlaces_32 : decode cX1_findPlaces 32 = .ok (.aload_n 2, 1) := by decide +kernel
theorem dX1_findPlaces_33 : decode cX1_findPlaces 33 = .ok (.getfield 42, 3) := by decide +kernel
theorem dX1_findPlaces_36 : decode cX1_findPlaces 36 = .ok (.if_icmp .ge 39, 3) := by decide +kernel
theorem dX1_findPlaces_39 : decode cX1_findPlaces 39 = .ok (.aload_n 0, 1) := by decide +kernel
theorem dX1_findPlaces_40 : decode cX1_findPlaces 40 = .ok (.getfield 11, 3) := by decide +kernel
theorem dX1_findPlaces_43 : decode cX1_findPlaces 43 = .ok (.iload 4, 2) := by decide +kernel
theorem dX1_findPlaces_45 : decode cX1_findPlaces 45 = .ok (.iload 5, 2) := by decide +kernel
theorem dX1_findPlaces_47 : decode cX1_findPlaces 47 = .ok (.invokestatic 56, 3) := by decide +kernel
theorem dX1_findPlaces_50 : decode cX1_findPlaces 50 = .ok (.iload 6, 2) := by decide +kernel
theorem dX1_findPlaces_52 : decode cX1_findPlaces 52 = .ok (.iadd, 1) := by decide +kernel
theorem dX1_findPlaces_53 : decode cX1_findPlaces 53 = .ok (.aload_n 1, 1) := by decide +kernel
theorem dX1_findPlaces_54 : decode cX1_findPlaces 54 = .ok (.iload 4, 2) := by decide +kernel
theorem dX1_findPlaces_56 : decode cX1_findPlaces 56 = .ok (.aload_n 2, 1) := by decide +kernel
theorem dX1_findPlaces_57 : decode cX1_findPlaces 57 = .ok (.getfield 60, 3) := by decide +kernel
theorem dX1_findPlaces_60 : decode cX1_findPlaces 60 = .ok (.iconst 3, 1) := by decide +kernel
theorem dX1_findPlaces_61 : decode cX1_findPlaces 61 = .ok (.iload 6, 2) := by decide +kernel
theorem dX1_findPlaces_63 : decode cX1_findPlaces 63 = .ok (.imul, 1) := by decide +kernel
theorem dX1_findPlaces_64 : decode cX1_findPlaces 64 = .ok (.iaload, 1) := by decide +kernel
theorem dX1_findPlaces_65 : decode cX1_findPlaces 65 = .ok (.invokevirtual 63, 3) := by decide +kernel
theorem dX1_findPlaces_68 : decode cX1_findPlaces 68 = .ok (.iastore, 1) := by decide +kernel
theorem dX1_findPlaces_69 : decode cX1_findPlaces 69 = .ok (.iinc 6 1, 3) := by decide +kernel
theorem dX1_findPlaces_72 : decode cX1_findPlaces 72 = .ok (.goto (-42), 3) := by decide +kernel
theorem dX1_findPlaces_75 : decode cX1_findPlaces 75 = .ok (.iinc 5 1, 3) := by decide +kernel
theorem dX1_findPlaces_78 : decode cX1_findPlaces 78 = .ok (.goto (-66), 3) := by decide +kernel
theorem dX1_findPlaces_81 : decode cX1_findPlaces 81 = .ok (.iinc 4 1, 3) := by decide +kernel
theorem dX1_findPlaces_84 : decode cX1_findPlaces 84 = .ok (.goto (-81), 3) := by decide +kernel
theorem dX1_findPlaces_87 : decode cX1_findPlaces 87 = .ok (.return_, 1) := by decide +kernel
theorem bX1_findPlaces_0 {G : GX} {h : mH} {Q : mO → mH → Prop} {r1 : Nat} {r2 : Nat} {v3 : Int32} (hi : Iv h) (k1 : kd r1 = (2, 11)) (k2 : kd r2 = (3, 7)) (K : Vw G jX1_findPlaces 3 [some (.ref 71), some (.ref r1), some (.ref r2), some (.int v3), some (.int 0), none, none] [] h Q) : Vw G jX1_findPlaces 0 [some (.ref 71), some (.ref r1), some (.ref r2), some (.int v3), none, none, none] [] h Q :=
  s_iconst 0 dX1_findPlaces_0 (by decide) (s_istore dX1_findPlaces_1 (Nat.le_of_ble_eq_true rfl) rfl (K))
theorem bX1_findPlaces_3 {G : GX} {h : mH} {Q : mO → mH → Prop} {r1 : Nat} {r2 : Nat} {v3 : Int32} {v4 : Int32} (hi : Iv h) (k1 : kd r1 = (2, 11)) (k2 : kd r2 = (3, 7)) (K : (4 ≤ v4 → Q (.inl none) h) ∧ (¬ 4 ≤ v4 → Vw G jX1_findPlaces 12 [some (.ref 71), some (.ref r1), some (.ref r2), some (.int v3), some (.int v4), some (.int 0), none] [] h Q)) : Vw G jX1_findPlaces 3 [some (.ref 71), some (.ref r1), some (.ref r2), some (.int v3), some (.int v4), none, none] [] h Q :=
  s_iload dX1_findPlaces_3 rfl (s_iconst 4 dX1_findPlaces_5 (by decide) (s_icmp_ge 87 dX1_findPlaces_6 rfl (fun q2 => s_return dX1_findPlaces_87 rfl (K.1 q2)) (fun q2 => s_iconst 0 dX1_findPlaces_9 (by decide) (s_istore dX1_findPlaces_10 (Nat.le_of_ble_eq_true rfl) rfl ((K.2 q2))))))
theorem bX1_findPlaces_12 {G : GX} {h : mH} {Q : mO → mH → Prop} {r1 : Nat} {r2 : Nat} {v3 : Int32} {v4 : Int32} {v5 : Int32} (hi : Iv h) (k1 : kd r1 = (2, 11)) (k2 : kd r2 = (3, 7)) (K : (v3 < v5 → Vw G jX1_findPlaces 3 [some (.ref 71), some (.ref r1), some (.ref r2), some (.int v3), some (.int (v4 + 1)), none, none] [] h Q) ∧ (¬ v3 < v5 → (vp_in v4 12 ∧ Vw G jX1_findPlaces 30 [some (.ref 71), some (.ref r1), some (.ref r2), some (.int v3), some (.int v4), some (.int v5), some (.int 0)] [] (pI h (r1 + 4) (Int32.toNatClampNeg v4) v5) Q))) : Vw G jX1_findPlaces 12 [some (.ref 71), some (.ref r1), some (.ref r2), some (.int v3), some (.int v4), some (.int v5), none] [] h Q :=
  s_iload dX1_findPlaces_12 rfl (s_iload_n dX1_findPlaces_14 rfl (s_icmp_gt 81 dX1_findPlaces_15 rfl (fun q2 => s_iinc 1 dX1_findPlaces_81 rfl (by decide) (Nat.le_of_ble_eq_true rfl) rfl (s_goto 3 dX1_findPlaces_84 rfl (Vw.mask [true, true, true, true, true, false, false] ((K.1 q2))))) (fun q2 => s_aload_n dX1_findPlaces_18 rfl (s_getR (v := .ref (r1 + 4)) dX1_findPlaces_19 flX1_51 rfl (hi.sh k1 rfl) (hi.rf (o := r1) (k := 3) (d := 4) k1 rfl) (s_iload dX1_findPlaces_22 rfl (s_iload dX1_findPlaces_24 rfl (s_iastore dX1_findPlaces_26 (hi.sh (kd2_3 k1) rfl) (K.2 q2).1 (s_iconst 0 dX1_findPlaces_27 (by decide) (s_istore dX1_findPlaces_28 (Nat.le_of_ble_eq_true rfl) rfl ((K.2 q2).2))))))))))
theorem bX1_findPlaces_30 {G : GX} {h : mH} {Q : mO → mH → Prop} {r1 : Nat} {r2 : Nat} {v3 : Int32} {v4 : Int32} {v5 : Int32} {v6 : Int32} (hi : Iv h) (k1 : kd r1 = (2, 11)) (k2 : kd r2 = (3, 7)) (K : ((gI h r2 3) ≤ v6 → Vw G jX1_findPlaces 12 [some (.ref 71), some (.ref r1), some (.ref r2), some (.int v3), some (.int v4), some (.int (v5 + 1)), none] [] h Q) ∧ (¬ (gI h r2 3) ≤ v6 → (vp_in (3 * v6) 18 ∧ WM G jX2_where [.ref r1, .int v4, .int (gI h (r2 + 3) (Int32.toNatClampNeg (3 * v6)))] h (Aft G jX1_findPlaces 65 [some (.ref 71), some (.ref r1), some (.ref r2), some (.int v3), some (.int v4), some (.int v5), some (.int v6)] [.int ((fX1_placeOf v4 v5) + v6), .ref 72] Q)))) : Vw G jX1_findPlaces 30 [some (.ref 71), some (.ref r1), some (.ref r2), some (.int v3), some (.int v4), some (.int v5), some (.int v6)] [] h Q :=
  s_iload dX1_findPlaces_30 rfl (s_aload_n dX1_findPlaces_32 rfl (s_getI dX1_findPlaces_33 flX1_42 (Or.inl rfl) (hi.sh k2 rfl) (s_icmp_ge 75 dX1_findPlaces_36 rfl (fun q3 => s_iinc 1 dX1_findPlaces_75 rfl (by decide) (Nat.le_of_ble_eq_true rfl) rfl (s_goto 12 dX1_findPlaces_78 rfl (Vw.mask [true, true, true, true, true, true, false] ((K.1 q3))))) (fun q3 => s_aload_n dX1_findPlaces_39 rfl (s_getR (v := .ref 72) dX1_findPlaces_40 flX1_11 rfl (hi.sh rfl rfl) (hi.rf (o := 71) (k := 8) (d := 1) rfl rfl) (s_iload dX1_findPlaces_43 rfl (s_iload dX1_findPlaces_45 rfl (s_callS (As := [.int v4, .int v5]) dX1_findPlaces_47 rfl lsX1_56 ⟨Nat.le_of_ble_eq_true rfl, Nat.le_of_ble_eq_true rfl⟩ rfl (Nat.le_of_ble_eq_true rfl) (mX1_placeOf   (s_iload dX1_findPlaces_50 rfl (s_iadd dX1_findPlaces_52 (s_aload_n dX1_findPlaces_53 rfl (s_iload dX1_findPlaces_54 rfl (s_aload_n dX1_findPlaces_56 rfl (s_getR (v := .ref (r2 + 3)) dX1_findPlaces_57 flX1_60 rfl (hi.sh k2 rfl) (hi.rf (o := r2) (k := 4) (d := 3) k2 rfl) (s_iconst 3 dX1_findPlaces_60 (by decide) (s_iload dX1_findPlaces_61 rfl (s_imul dX1_findPlaces_63 (s_iaload dX1_findPlaces_64 (hi.sh (kd3_4 k2) rfl) (K.2 q3).1 (s_callV (As := [.int v4, .int (gI h (r2 + 3) (Int32.toNatClampNeg (3 * v6)))]) dX1_findPlaces_65 rfl lvX1_63 ⟨Nat.le_of_ble_eq_true rfl, Nat.le_of_ble_eq_true rfl⟩ (hi.sh k1 rfl) ⟨_, _, by decide, rfl⟩ rfl (Nat.le_of_ble_eq_true rfl) ((K.2 q3).2)))))))))))))))))))))
theorem bX1_findPlaces_68 {G : GX} {h : mH} {Q : mO → mH → Prop} {r1 : Nat} {r2 : Nat} {v3 : Int32} {v4 : Int32} {v5 : Int32} {v6 : Int32} {vs0 : Int32} {vs1 : Int32} (hi : Iv h) (k1 : kd r1 = (2, 11)) (k2 : kd r2 = (3, 7)) (K : vp_in vs1 144 ∧ Vw G jX1_findPlaces 30 [some (.ref 71), some (.ref r1), some (.ref r2), some (.int v3), some (.int v4), some (.int v5), some (.int (v6 + 1))] [] (pI h 72 (Int32.toNatClampNeg vs1) vs0) Q) : Vw G jX1_findPlaces 68 [some (.ref 71), some (.ref r1), some (.ref r2), some (.int v3), some (.int v4), some (.int v5), some (.int v6)] [.int vs0, .int vs1, .ref 72] h Q :=
  s_iastore dX1_findPlaces_68 (hi.sh rfl rfl) K.1 (s_iinc 1 dX1_findPlaces_69 rfl (by decide) (Nat.le_of_ble_eq_true rfl) rfl (s_goto 30 dX1_findPlaces_72 rfl (K.2)))
theorem eX1_findPlaces {G : GX} {h : mH} {Q : mO → mH → Prop} {r1 : Nat} {r2 : Nat} {v3 : Int32} (hi : Iv h) (k1 : kd r1 = (2, 11)) (k2 : kd r2 = (3, 7)) (K : Vw G jX1_findPlaces 3 [some (.ref 71), some (.ref r1), some (.ref r2), some (.int v3), some (.int 0), none, none] [] h Q) : WM G jX1_findPlaces [.ref 71, .ref r1, .ref r2, .int v3] h Q :=
  WM.body (ls := [some (.ref 71), some (.ref r1), some (.ref r2), some (.int v3), none, none, none]) rfl (by decide +kernel) rfl (Nat.le_of_ble_eq_true rfl) rfl ((bX1_findPlaces_0 hi k1 k2 K))
theorem dX1_findOffs_0 : decode cX1_findOffs 0 = .ok (.iconst 0, 1) := by decide +kernel
theorem dX1_findOffs_1 : decode cX1_findOffs 1 = .ok (.istore 5, 2) := by decide +kernel
theorem dX1_findOffs_3 : decode cX1_findOffs 3 = .ok (.iload 5, 2) := by decide +kernel
theorem dX1_findOffs_5 : decode cX1_findOffs 5 = .ok (.aload_n 2, 1) := by decide +kernel
theorem dX1_findOffs_6 : decode cX1_findOffs 6 = .ok (.getfield 42, 3) := by decide +kernel
theorem dX1_findOffs_9 : decode cX1_findOffs 9 = .ok (.if_icmp .ge 139, 3) := by decide +kernel
theorem dX1_findOffs_12 : decode cX1_findOffs 12 = .ok (.aload_n 2, 1) := by decide +kernel
theorem dX1_findOffs_13 : decode cX1_findOffs 13 = .ok (.getfield 60, 3) := by decide +kernel
theorem dX1_findOffs_16 : decode cX1_findOffs 16 = .ok (.iconst 3, 1) := by decide +kernel
theorem dX1_findOffs_17 : decode cX1_findOffs 17 = .ok (.iload 5, 2) := by decide +kernel
theorem dX1_findOffs_19 : decode cX1_findOffs 19 = .ok (.imul, 1) := by decide +kernel
theorem dX1_findOffs_20 : decode cX1_findOffs 20 = .ok (.iconst 1, 1) := by decide +kernel
theorem dX1_findOffs_21 : decode cX1_findOffs 21 = .ok (.iadd, 1) := by decide +kernel
theorem dX1_findOffs_22 : decode cX1_findOffs 22 = .ok (.iload 4, 2) := by decide +kernel
theorem dX1_findOffs_24 : decode cX1_findOffs 24 = .ok (.iadd, 1) := by decide +kernel
theorem dX1_findOffs_25 : decode cX1_findOffs 25 = .ok (.iaload, 1) := by decide +kernel
theorem dX1_findOffs_26 : decode cX1_findOffs 26 = .ok (.aload_n 1, 1) := by decide +kernel
theorem dX1_findOffs_27 : decode cX1_findOffs 27 = .ok (.aload_n 2, 1) := by decide +kernel
theorem dX1_findOffs_28 : decode cX1_findOffs 28 = .ok (.getfield 60, 3) := by decide +kernel
theorem dX1_findOffs_31 : decode cX1_findOffs 31 = .ok (.iconst 3, 1) := by decide +kernel
theorem dX1_findOffs_32 : decode cX1_findOffs 32 = .ok (.iload 5, 2) := by decide +kernel
theorem dX1_findOffs_34 : decode cX1_findOffs 34 = .ok (.imul, 1) := by decide +kernel
theorem dX1_findOffs_35 : decode cX1_findOffs 35 = .ok (.iaload, 1) := by decide +kernel
theorem dX1_findOffs_36 : decode cX1_findOffs 36 = .ok (.iload 4, 2) := by decide +kernel
theorem dX1_findOffs_38 : decode cX1_findOffs 38 = .ok (.invokevirtual 66, 3) := by decide +kernel
theorem dX1_findOffs_41 : decode cX1_findOffs 41 = .ok (.isub, 1) := by decide +kernel
theorem dX1_findOffs_42 : decode cX1_findOffs 42 = .ok (.istore 6, 2) := by decide +kernel
theorem dX1_findOffs_44 : decode cX1_findOffs 44 = .ok (.iconst 0, 1) := by decide +kernel
theorem dX1_findOffs_45 : decode cX1_findOffs 45 = .ok (.istore 7, 2) := by decide +kernel
theorem dX1_findOffs_47 : decode cX1_findOffs 47 = .ok (.iload 7, 2) := by decide +kernel
theorem dX1_findOffs_49 : decode cX1_findOffs 49 = .ok (.iload_n 3, 1) := by decide +kernel
theorem dX1_findOffs_50 : decode cX1_findOffs 50 = .ok (.if_icmp .gt 92, 3) := by decide +kernel
theorem dX1_findOffs_53 : decode cX1_findOffs 53 = .ok (.iconst 0, 1) := by decide +kernel
theorem dX1_findOffs_54 : decode cX1_findOffs 54 = .ok (.istore 8, 2) := by decide +kernel
theorem dX1_findOffs_56 : decode cX1_findOffs 56 = .ok (.iload 8, 2) := by decide +kernel
theorem dX1_findOffs_58 : decode cX1_findOffs 58 = .ok (.iload_n 3, 1) := by decide +kernel
theorem dX1_findOffs_59 : decode cX1_findOffs 59 = .ok (.if_icmp .gt 77, 3) := by decide +kernel
theorem dX1_findOffs_62 : decode cX1_findOffs 62 = .ok (.aload_n 0, 1) := by decide +kernel
theorem dX1_findOffs_63 : decode cX1_findOffs 63 = .ok (.getfield 11, 3) := by decide +kernel
theorem dX1_findOffs_66 : decode cX1_findOffs 66 = .ok (.iconst 2, 1) := by decide +kernel
theorem dX1_findOffs_67 : decode cX1_findOffs 67 = .ok (.iload 4, 2) := by decide +kernel
theorem dX1_findOffs_69 : decode cX1_findOffs 69 = .ok (.imul, 1) := by decide +kernel
theorem dX1_findOffs_70 : decode cX1_findOffs 70 = .ok (.iload 7, 2) := by decide +kernel
theorem dX1_findOffs_72 : decode cX1_findOffs 72 = .ok (.invokestatic 56, 3) := by decide +kernel
theorem dX1_findOffs_75 : decode cX1_findOffs 75 = .ok (.iload 5, 2) := by decide +kernel
theorem dX1_findOffs_77 : decode cX1_findOffs 77 = .ok (.iadd, 1) := by decide +kernel
theorem dX1_findOffs_78 : decode cX1_findOffs 78 = .ok (.iaload, 1) := by decide +kernel
theorem dX1_findOffs_79 : decode cX1_findOffs 79 = .ok (.aload_n 0, 1) := by decide +kernel
theorem dX1_findOffs_80 : decode cX1_findOffs 80 = .ok (.getfield 11, 3) := by decide +kernel
theorem dX1_findOffs_83 : decode cX1_findOffs 83 = .ok (.iconst 2, 1) := by decide +kernel
theorem dX1_findOffs_84 : decode cX1_findOffs 84 = .ok (.iload 4, 2) := by decide +kernel
theorem dX1_findOffs_86 : decode cX1_findOffs 86 = .ok (.imul, 1) := by decide +kernel
theorem dX1_findOffs_87 : decode cX1_findOffs 87 = .ok (.iconst 1, 1) := by decide +kernel
theorem dX1_findOffs_88 : decode cX1_findOffs 88 = .ok (.iadd, 1) := by decide +kernel
theorem dX1_findOffs_89 : decode cX1_findOffs 89 = .ok (.iload 8, 2) := by decide +kernel
theorem dX1_findOffs_91 : decode cX1_findOffs 91 = .ok (.invokestatic 56, 3) := by decide +kernel
theorem dX1_findOffs_94 : decode cX1_findOffs 94 = .ok (.iload 5, 2) := by decide +kernel
theorem dX1_findOffs_96 : decode cX1_findOffs 96 = .ok (.iadd, 1) := by decide +kernel
theorem dX1_findOffs_97 : decode cX1_findOffs 97 = .ok (.iaload, 1) := by decide +kernel
theorem dX1_findOffs_98 : decode cX1_findOffs 98 = .ok (.iadd, 1) := by decide +kernel
theorem dX1_findOffs_99 : decode cX1_findOffs 99 = .ok (.istore 9, 2) := by decide +kernel
theorem dX1_findOffs_101 : decode cX1_findOffs 101 = .ok (.aload_n 0, 1) := by decide +kernel
theorem dX1_findOffs_102 : decode cX1_findOffs 102 = .ok (.getfield 15, 3) := by decide +kernel
theorem dX1_findOffs_105 : decode cX1_findOffs 105 = .ok (.iload 4, 2) := by decide +kernel
theorem dX1_findOffs_107 : decode cX1_findOffs 107 = .ok (.bipush 6, 2) := by decide +kernel
theorem dX1_findOffs_109 : decode cX1_findOffs 109 = .ok (.iload 7, 2) := by decide +kernel
theorem dX1_findOffs_111 : decode cX1_findOffs 111 = .ok (.imul, 1) := by decide +kernel
theorem dX1_findOffs_112 : decode cX1_findOffs 112 = .ok (.iload 8, 2) := by decide +kernel
theorem dX1_findOffs_114 : decode cX1_findOffs 114 = .ok (.iadd, 1) := by decide +kernel
theorem dX1_findOffs_115 : decode cX1_findOffs 115 = .ok (.invokestatic 69, 3) := by decide +kernel
theorem dX1_findOffs_118 : decode cX1_findOffs 118 = .ok (.iload 5, 2) := by decide +kernel
theorem dX1_findOffs_120 : decode cX1_findOffs 120 = .ok (.iadd, 1) := by decide +kernel
theorem dX1_findOffs_121 : decode cX1_findOffs 121 = .ok (.iload 6, 2) := by decide +kernel
theorem dX1_findOffs_123 : decode cX1_findOffs 123 = .ok (.iload 9, 2) := by decide +kernel
theorem dX1_findOffs_125 : decode cX1_findOffs 125 = .ok (.isub, 1) := by decide +kernel
theorem dX1_findOffs_126 : decode cX1_findOffs 126 = .ok (.invokestatic 72, 3) := by decide +kernel
theorem dX1_findOffs_129 : decode cX1_findOffs 129 = .ok (.iastore, 1) := by decide +kernel
theorem dX1_findOffs_130 : decode cX1_findOffs 130 = .ok (.iinc 8 1, 3) := by decide +kernel
theorem dX1_findOffs_133 : decode cX1_findOffs 133 = .ok (.goto (-77), 3) := by decide +kernel
theorem dX1_findOffs_136 : decode cX1_findOffs 136 = .ok (.iinc 7 1, 3) := by decide +kernel
theorem dX1_findOffs_139 : decode cX1_findOffs 139 = .ok (.goto (-92), 3) := by decide +kernel
theorem dX1_findOffs_142 : decode cX1_findOffs 142 = .ok (.iinc 5 1, 3) := by decide +kernel
theorem dX1_findOffs_145 : decode cX1_findOffs 145 = .ok (.goto (-142), 3) := by decide +kernel
theorem dX1_findOffs_148 : decode cX1_findOffs 148 = .ok (.return_, 1) := by decide +kernel
theorem bX1_findOffs_0 {G : GX} {h : mH} {Q : mO → mH → Prop} {r1 : Nat} {r2 : Nat} {v3 : Int32} {v4 : Int32} (hi : Iv h) (k1 : kd r1 = (2, 11)) (k2 : kd r2 = (3, 7)) (K : Vw G jX1_findOffs 3 [some (.ref 71), some (.ref r1), some (.ref r2), some (.int v3), some (.int v4), some (.int 0), none, none, none, none] [] h Q) : Vw G jX1_findOffs 0 [some (.ref 71), some (.ref r1), some (.ref r2), some (.int v3), some (.int v4), none, none, none, none, none] [] h Q :=
  s_iconst 0 dX1_findOffs_0 (by decide) (s_istore dX1_findOffs_1 (Nat.le_of_ble_eq_true rfl) rfl (K))
theorem bX1_findOffs_3 {G : GX} {h : mH} {Q : mO → mH → Prop} {r1 : Nat} {r2 : Nat} {v3 : Int32} {v4 : Int32} {v5 : Int32} (hi : Iv h) (k1 : kd r1 = (2, 11)) (k2 : kd r2 = (3, 7)) (K : ((gI h r2 3) ≤ v5 → Q (.inl none) h) ∧ (¬ (gI h r2 3) ≤ v5 → (vp_in (((3 * v5) + 1) + v4) 18 ∧ (vp_in (3 * v5) 18 ∧ WM G jX2_shaken [.ref r1, .int (gI h (r2 + 3) (Int32.toNatClampNeg (3 * v5))), .int v4] h (Aft G jX1_findOffs 38 [some (.ref 71), some (.ref r1), some (.ref r2), some (.int v3), some (.int v4), some (.int v5), none, none, none, none] [.int (gI h (r2 + 3) (Int32.toNatClampNeg (((3 * v5) + 1) + v4)))] Q))))) : Vw G jX1_findOffs 3 [some (.ref 71), some (.ref r1), some (.ref r2), some (.int v3), some (.int v4), some (.int v5), none, none, none, none] [] h Q :=
  s_iload dX1_findOffs_3 rfl (s_aload_n dX1_findOffs_5 rfl (s_getI dX1_findOffs_6 flX1_42 (Or.inl rfl) (hi.sh k2 rfl) (s_icmp_ge 148 dX1_findOffs_9 rfl (fun q3 => s_return dX1_findOffs_148 rfl (K.1 q3)) (fun q3 => s_aload_n dX1_findOffs_12 rfl (s_getR (v := .ref (r2 + 3)) dX1_findOffs_13 flX1_60 rfl (hi.sh k2 rfl) (hi.rf (o := r2) (k := 4) (d := 3) k2 rfl) (s_iconst 3 dX1_findOffs_16 (by decide) (s_iload dX1_findOffs_17 rfl (s_imul dX1_findOffs_19 (s_iconst 1 dX1_findOffs_20 (by decide) (s_iadd dX1_findOffs_21 (s_iload dX1_findOffs_22 rfl (s_iadd dX1_findOffs_24 (s_iaload dX1_findOffs_25 (hi.sh (kd3_4 k2) rfl) (K.2 q3).1 (s_aload_n dX1_findOffs_26 rfl (s_aload_n dX1_findOffs_27 rfl (s_getR (v := .ref (r2 + 3)) dX1_findOffs_28 flX1_60 rfl (hi.sh k2 rfl) (hi.rf (o := r2) (k := 4) (d := 3) k2 rfl) (s_iconst 3 dX1_findOffs_31 (by decide) (s_iload dX1_findOffs_32 rfl (s_imul dX1_findOffs_34 (s_iaload dX1_findOffs_35 (hi.sh (kd3_4 k2) rfl) (K.2 q3).2.1 (s_iload dX1_findOffs_36 rfl (s_callV (As := [.int (gI h (r2 + 3) (Int32.toNatClampNeg (3 * v5))), .int v4]) dX1_findOffs_38 rfl lvX1_66 ⟨Nat.le_of_ble_eq_true rfl, Nat.le_of_ble_eq_true rfl⟩ (hi.sh k1 rfl) ⟨_, _, by decide, rfl⟩ rfl (Nat.le_of_ble_eq_true rfl) ((K.2 q3).2.2)))))))))))))))))))))))
theorem bX1_findOffs_41 {G : GX} {h : mH} {Q : mO → mH → Prop} {r1 : Nat} {r2 : Nat} {v3 : Int32} {v4 : Int32} {v5 : Int32} {vs0 : Int32} {vs1 : Int32} (hi : Iv h) (k1 : kd r1 = (2, 11)) (k2 : kd r2 = (3, 7)) (K : Vw G jX1_findOffs 47 [some (.ref 71), some (.ref r1), some (.ref r2), some (.int v3), some (.int v4), some (.int v5), some (.int (vs1 - vs0)), some (.int 0), none, none] [] h Q) : Vw G jX1_findOffs 41 [some (.ref 71), some (.ref r1), some (.ref r2), some (.int v3), some (.int v4), some (.int v5), none, none, none, none] [.int vs0, .int vs1] h Q :=
  s_isub dX1_findOffs_41 (s_istore dX1_findOffs_42 (Nat.le_of_ble_eq_true rfl) rfl (s_iconst 0 dX1_findOffs_44 (by decide) (s_istore dX1_findOffs_45 (Nat.le_of_ble_eq_true rfl) rfl (K))))
theorem bX1_findOffs_47 {G : GX} {h : mH} {Q : mO → mH → Prop} {r1 : Nat} {r2 : Nat} {v3 : Int32} {v4 : Int32} {v5 : Int32} {v6 : Int32} {v7 : Int32} (hi : Iv h) (k1 : kd r1 = (2, 11)) (k2 : kd r2 = (3, 7)) (K : (v3 < v7 → Vw G jX1_findOffs 3 [some (.ref 71), some (.ref r1), some (.ref r2), some (.int v3), some (.int v4), some (.int (v5 + 1)), none, none, none, none] [] h Q) ∧ (¬ v3 < v7 → Vw G jX1_findOffs 56 [some (.ref 71), some (.ref r1), some (.ref r2), some (.int v3), some (.int v4), some (.int v5), some (.int v6), some (.int v7), some (.int 0), none] [] h Q)) : Vw G jX1_findOffs 47 [some (.ref 71), some (.ref r1), some (.ref r2), some (.int v3), some (.int v4), some (.int v5), some (.int v6), some (.int v7), none, none] [] h Q :=
  s_iload dX1_findOffs_47 rfl (s_iload_n dX1_findOffs_49 rfl (s_icmp_gt 142 dX1_findOffs_50 rfl (fun q2 => s_iinc 1 dX1_findOffs_142 rfl (by decide) (Nat.le_of_ble_eq_true rfl) rfl (s_goto 3 dX1_findOffs_145 rfl (Vw.mask [true, true, true, true, true, true, false, false, false, false] ((K.1 q2))))) (fun q2 => s_iconst 0 dX1_findOffs_53 (by decide) (s_istore dX1_findOffs_54 (Nat.le_of_ble_eq_true rfl) rfl ((K.2 q2))))))
theorem bX1_findOffs_56 {G : GX} {h : mH} {Q : mO → mH → Prop} {r1 : Nat} {r2 : Nat} {v3 : Int32} {v4 : Int32} {v5 : Int32} {v6 : Int32} {v7 : Int32} {v8 : Int32} (hi : Iv h) (k1 : kd r1 = (2, 11)) (k2 : kd r2 = (3, 7)) (K : (v3 < v8 → Vw G jX1_findOffs 47 [some (.ref 71), some (.ref r1), some (.ref r2), some (.int v3), some (.int v4), some (.int v5), some (.int v6), some (.int (v7 + 1)), none, none] [] h Q) ∧ (¬ v3 < v8 → (vp_in ((fX1_placeOf (2 * v4) v7) + v5) 144 ∧ (vp_in ((fX1_placeOf ((2 * v4) + 1) v8) + v5) 144 ∧ (vp_in ((fX1_offOf v4 ((6 * v7) + v8)) + v5) 432 ∧ Vw G jX1_findOffs 56 [some (.ref 71), some (.ref r1), some (.ref r2), some (.int v3), some (.int v4), some (.int v5), some (.int v6), some (.int v7), some (.int (v8 + 1)), none] [] (pI h 73 (Int32.toNatClampNeg ((fX1_offOf v4 ((6 * v7) + v8)) + v5)) (fJ9_abs_0f7a4 (v6 - ((gI h 72 (Int32.toNatClampNeg ((fX1_placeOf (2 * v4) v7) + v5))) + (gI h 72 (Int32.toNatClampNeg ((fX1_placeOf ((2 * v4) + 1) v8) + v5))))))) Q))))) : Vw G jX1_findOffs 56 [some (.ref 71), some (.ref r1), some (.ref r2), some (.int v3), some (.int v4), some (.int v5), some (.int v6), some (.int v7), some (.int v8), none] [] h Q :=
  s_iload dX1_findOffs_56 rfl (s_iload_n dX1_findOffs_58 rfl (s_icmp_gt 136 dX1_findOffs_59 rfl (fun q2 => s_iinc 1 dX1_findOffs_136 rfl (by decide) (Nat.le_of_ble_eq_true rfl) rfl (s_goto 47 dX1_findOffs_139 rfl (Vw.mask [true, true, true, true, true, true, true, true, false, false] ((K.1 q2))))) (fun q2 => s_aload_n dX1_findOffs_62 rfl (s_getR (v := .ref 72) dX1_findOffs_63 flX1_11 rfl (hi.sh rfl rfl) (hi.rf (o := 71) (k := 8) (d := 1) rfl rfl) (s_iconst 2 dX1_findOffs_66 (by decide) (s_iload dX1_findOffs_67 rfl (s_imul dX1_findOffs_69 (s_iload dX1_findOffs_70 rfl (s_callS (As := [.int (2 * v4), .int v7]) dX1_findOffs_72 rfl lsX1_56 ⟨Nat.le_of_ble_eq_true rfl, Nat.le_of_ble_eq_true rfl⟩ rfl (Nat.le_of_ble_eq_true rfl) (mX1_placeOf   (s_iload dX1_findOffs_75 rfl (s_iadd dX1_findOffs_77 (s_iaload dX1_findOffs_78 (hi.sh rfl rfl) (K.2 q2).1 (s_aload_n dX1_findOffs_79 rfl (s_getR (v := .ref 72) dX1_findOffs_80 flX1_11 rfl (hi.sh rfl rfl) (hi.rf (o := 71) (k := 8) (d := 1) rfl rfl) (s_iconst 2 dX1_findOffs_83 (by decide) (s_iload dX1_findOffs_84 rfl (s_imul dX1_findOffs_86 (s_iconst 1 dX1_findOffs_87 (by decide) (s_iadd dX1_findOffs_88 (s_iload dX1_findOffs_89 rfl (s_callS (As := [.int ((2 * v4) + 1), .int v8]) dX1_findOffs_91 rfl lsX1_56 ⟨Nat.le_of_ble_eq_true rfl, Nat.le_of_ble_eq_true rfl⟩ rfl (Nat.le_of_ble_eq_true rfl) (mX1_placeOf   (s_iload dX1_findOffs_94 rfl (s_iadd dX1_findOffs_96 (s_iaload dX1_findOffs_97 (hi.sh rfl rfl) (K.2 q2).2.1 (s_iadd dX1_findOffs_98 (s_istore dX1_findOffs_99 (Nat.le_of_ble_eq_true rfl) rfl (s_aload_n dX1_findOffs_101 rfl (s_getR (v := .ref 73) dX1_findOffs_102 flX1_15 rfl (hi.sh rfl rfl) (hi.rf (o := 71) (k := 9) (d := 2) rfl rfl) (s_iload dX1_findOffs_105 rfl (s_bipush 6 dX1_findOffs_107 (by decide) (s_iload dX1_findOffs_109 rfl (s_imul dX1_findOffs_111 (s_iload dX1_findOffs_112 rfl (s_iadd dX1_findOffs_114 (s_callS (As := [.int v4, .int ((6 * v7) + v8)]) dX1_findOffs_115 rfl lsX1_69 ⟨Nat.le_of_ble_eq_true rfl, Nat.le_of_ble_eq_true rfl⟩ rfl (Nat.le_of_ble_eq_true rfl) (mX1_offOf   (s_iload dX1_findOffs_118 rfl (s_iadd dX1_findOffs_120 (s_iload dX1_findOffs_121 rfl (s_iload dX1_findOffs_123 rfl (s_isub dX1_findOffs_125 (s_callS (As := [.int (v6 - ((gI h 72 (Int32.toNatClampNeg ((fX1_placeOf (2 * v4) v7) + v5))) + (gI h 72 (Int32.toNatClampNeg ((fX1_placeOf ((2 * v4) + 1) v8) + v5)))))]) dX1_findOffs_126 rfl lsX1_72 ⟨Nat.le_of_ble_eq_true rfl, Nat.le_of_ble_eq_true rfl⟩ rfl (Nat.le_of_ble_eq_true rfl) (mJ9_abs_0f7a4   (s_iastore dX1_findOffs_129 (hi.sh rfl rfl) (K.2 q2).2.2.1 (s_iinc 1 dX1_findOffs_130 rfl (by decide) (Nat.le_of_ble_eq_true rfl) rfl (s_goto 56 dX1_findOffs_133 rfl (Vw.mask [true, true, true, true, true, true, true, true, true, false] ((K.2 q2).2.2.2))))))))))))))))))))))))))))))))))))))))))))))))))
theorem eX1_findOffs {G : GX} {h : mH} {Q : mO → mH → Prop} {r1 : Nat} {r2 : Nat} {v3 : Int32} {v4 : Int32} (hi : Iv h) (k1 : kd r1 = (2, 11)) (k2 : kd r2 = (3, 7)) (K : Vw G jX1_findOffs 3 [some (.ref 71), some (.ref r1), some (.ref r2), some (.int v3), some (.int v4), some (.int 0), none, none, none, none] [] h Q) : WM G jX1_findOffs [.ref 71, .ref r1, .ref r2, .int v3, .int v4] h Q :=
  WM.body (ls := [some (.ref 71), some (.ref r1), some (.ref r2), some (.int v3), some (.int v4), none, none, none, none, none]) rfl (by decide +kernel) rfl (Nat.le_of_ble_eq_true rfl) rfl ((bX1_findOffs_0 hi k1 k2 K))
theorem dX1_weigh_0 : decode cX1_weigh 0 = .ok (.iconst 0, 1) := by decide +kernel
theorem dX1_weigh_1 : decode cX1_weigh 1 = .ok (.istore 5, 2) := by decide +kernel
theorem dX1_weigh_3 : decode cX1_weigh 3 = .ok (.iconst 1, 1) := by decide +kernel
theorem dX1_weigh_4 : decode cX1_weigh 4 = .ok (.istore 6, 2) := by decide +kernel
theorem dX1_weigh_6 : decode cX1_weigh 6 = .ok (.iconst 0, 1) := by decide +kernel
theorem dX1_weigh_7 : decode cX1_weigh 7 = .ok (.istore 7, 2) := by decide +kernel
theorem dX1_weigh_9 : decode cX1_weigh 9 = .ok (.iload 7, 2) := by decide +kernel
theorem dX1_weigh_11 : decode cX1_weigh 11 = .ok (.iload_n 3, 1) := by decide +kernel
theorem dX1_weigh_12 : decode cX1_weigh 12 = .ok (.if_icmp .ge 62, 3) := by decide +kernel
theorem dX1_weigh_15 : decode cX1_weigh 15 = .ok (.aload_n 0, 1) := by decide +kernel
theorem dX1_weigh_16 : decode cX1_weigh 16 = .ok (.getfield 15, 3) := by decide +kernel
theorem dX1_weigh_19 : decode cX1_weigh 19 = .ok (.iconst 0, 1) := by decide +kernel
theorem dX1_weigh_20 : decode cX1_weigh 20 = .ok (.iload_n 1, 1) := by decide +kernel
theorem dX1_weigh_21 : decode cX1_weigh 21 = .ok (.invokestatic 69, 3) := by decide +kernel
theorem dX1_weigh_24 : decode cX1_weigh 24 = .ok (.iload 7, 2) := by decide +kernel
theorem dX1_weigh_26 : decode cX1_weigh 26 = .ok (.iadd, 1) := by decide +kernel
theorem dX1_weigh_27 : decode cX1_weigh 27 = .ok (.iaload, 1) := by decide +kernel
theorem dX1_weigh_28 : decode cX1_weigh 28 = .ok (.aload_n 0, 1) := by decide +kernel
theorem dX1_weigh_29 : decode cX1_weigh 29 = .ok (.getfield 15, 3) := by decide +kernel
theorem dX1_weigh_32 : decode cX1_weigh 32 = .ok (.iconst 1, 1) := by decide +kernel
theorem dX1_weigh_33 : decode cX1_weigh 33 = .ok (.iload_n 2, 1) := by decide +kernel
theorem dX1_weigh_34 : decode cX1_weigh 34 = .ok (.invokestatic 69, 3) := by decide +kernel
theorem dX1_weigh_37 : decode cX1_weigh 37 = .ok (.iload 7, 2) := by decide +kernel
theorem dX1_weigh_39 : decode cX1_weigh 39 = .ok (.iadd, 1) := by decide +kernel
theorem dX1_weigh_40 : decode cX1_weigh 40 = .ok (.iaload, 1) := by decide +kernel
theorem dX1_weigh_41 : decode cX1_weigh 41 = .ok (.iadd, 1) := by decide +kernel
theorem dX1_weigh_42 : decode cX1_weigh 42 = .ok (.istore 8, 2) := by decide +kernel
theorem dX1_weigh_44 : decode cX1_weigh 44 = .ok (.iload 5, 2) := by decide +kernel
theorem dX1_weigh_46 : decode cX1_weigh 46 = .ok (.iload 8, 2) := by decide +kernel
theorem dX1_weigh_48 : decode cX1_weigh 48 = .ok (.iadd, 1) := by decide +kernel
theorem dX1_weigh_49 : decode cX1_weigh 49 = .ok (.istore 5, 2) := by decide +kernel
theorem dX1_weigh_51 : decode cX1_weigh 51 = .ok (.iload 6, 2) := by decide +kernel
theorem dX1_weigh_53 : decode cX1_weigh 53 = .ok (.iload 8, 2) := by decide +kernel
theorem dX1_weigh_55 : decode cX1_weigh 55 = .ok (.iload 4, 2) := by decide +kernel
theorem dX1_weigh_57 : decode cX1_weigh 57 = .ok (.if_icmp .gt 7, 3) := by decide +kernel
theorem dX1_weigh_60 : decode cX1_weigh 60 = .ok (.iconst 1, 1) := by decide +kernel
theorem dX1_weigh_61 : decode cX1_weigh 61 = .ok (.goto 4, 3) := by decide +kernel
theorem dX1_weigh_64 : decode cX1_weigh 64 = .ok (.iconst 0, 1) := by decide +kernel
theorem dX1_weigh_65 : decode cX1_weigh 65 = .ok (.iand, 1) := by decide +kernel
theorem dX1_weigh_66 : decode cX1_weigh 66 = .ok (.istore 6, 2) := by decide +kernel
theorem dX1_weigh_68 : decode cX1_weigh 68 = .ok (.iinc 7 1, 3) := by decide +kernel
theorem dX1_weigh_71 : decode cX1_weigh 71 = .ok (.goto (-62), 3) := by decide +kernel
theorem dX1_weigh_74 : decode cX1_weigh 74 = .ok (.bipush 100, 2) := by decide +kernel
theorem dX1_weigh_76 : decode cX1_weigh 76 = .ok (.iload_n 1, 1) := by decide +kernel
theorem dX1_weigh_77 : decode cX1_weigh 77 = .ok (.invokestatic 81, 3) := by decide +kernel
theorem dX1_weigh_80 : decode cX1_weigh 80 = .ok (.imul, 1) := by decide +kernel
theorem dX1_weigh_81 : decode cX1_weigh 81 = .ok (.iload_n 2, 1) := by decide +kernel
theorem dX1_weigh_82 : decode cX1_weigh 82 = .ok (.invokestatic 81, 3) := by decide +kernel
theorem dX1_weigh_85 : decode cX1_weigh 85 = .ok (.iadd, 1) := by decide +kernel
theorem dX1_weigh_86 : decode cX1_weigh 86 = .ok (.istore 7, 2) := by decide +kernel
theorem dX1_weigh_88 : decode cX1_weigh 88 = .ok (.iload 6, 2) := by decide +kernel
theorem dX1_weigh_90 : decode cX1_weigh 90 = .ok (.ifCond .eq 34, 3) := by decide +kernel
theorem dX1_weigh_93 : decode cX1_weigh 93 = .ok (.aload_n 0, 1) := by decide +kernel
theorem dX1_weigh_94 : decode cX1_weigh 94 = .ok (.dup, 1) := by decide +kernel
theorem dX1_weigh_95 : decode cX1_weigh 95 = .ok (.getfield 29, 3) := by decide +kernel
theorem dX1_weigh_98 : decode cX1_weigh 98 = .ok (.iconst 1, 1) := by decide +kernel
theorem dX1_weigh_99 : decode cX1_weigh 99 = .ok (.iadd, 1) := by decide +kernel
theorem dX1_weigh_100 : decode cX1_weigh 100 = .ok (.putfield 29, 3) := by decide +kernel
theorem dX1_weigh_103 : decode cX1_weigh 103 = .ok (.aload_n 0, 1) := by decide +kernel
theorem dX1_weigh_104 : decode cX1_weigh 104 = .ok (.aload_n 0, 1) := by decide +kernel
theorem dX1_weigh_105 : decode cX1_weigh 105 = .ok (.getfield 33, 3) := by decide +kernel
theorem dX1_weigh_108 : decode cX1_weigh 108 = .ok (.iconst (-1), 1) := by decide +kernel
theorem dX1_weigh_109 : decode cX1_weigh 109 = .ok (.if_icmp .ne 8, 3) := by decide +kernel
theorem dX1_weigh_112 : decode cX1_weigh 112 = .ok (.iload 7, 2) := by decide +kernel
theorem dX1_weigh_114 : decode cX1_weigh 114 = .ok (.goto 7, 3) := by decide +kernel
theorem dX1_weigh_117 : decode cX1_weigh 117 = .ok (.aload_n 0, 1) := by decide +kernel
theorem dX1_weigh_118 : decode cX1_weigh 118 = .ok (.getfield 33, 3) := by decide +kernel
theorem dX1_weigh_121 : decode cX1_weigh 121 = .ok (.putfield 33, 3) := by decide +kernel
theorem dX1_weigh_124 : decode cX1_weigh 124 = .ok (.aload_n 0, 1) := by decide +kernel
theorem dX1_weigh_125 : decode cX1_weigh 125 = .ok (.getfield 36, 3) := by decide +kernel
theorem dX1_weigh_128 : decode cX1_weigh 128 = .ok (.iconst (-1), 1) := by decide +kernel
theorem dX1_weigh_129 : decode cX1_weigh 129 = .ok (.if_icmp .eq 12, 3) := by decide +kernel
theorem dX1_weigh_132 : decode cX1_weigh 132 = .ok (.iload 5, 2) := by decide +kernel
theorem dX1_weigh_134 : decode cX1_weigh 134 = .ok (.aload_n 0, 1) := by decide +kernel
theorem dX1_weigh_135 : decode cX1_weigh 135 = .ok (.getfield 39, 3) := by decide +kernel
theorem dX1_weigh_138 : decode cX1_weigh 138 = .ok (.if_icmp .ge 15, 3) := by decide +kernel
theorem dX1_weigh_141 : decode cX1_weigh 141 = .ok (.aload_n 0, 1) := by decide +kernel
theorem dX1_weigh_142 : decode cX1_weigh 142 = .ok (.iload 7, 2) := by decide +kernel
theorem dX1_weigh_144 : decode cX1_weigh 144 = .ok (.putfield 36, 3) := by decide +kernel
theorem dX1_weigh_147 : decode cX1_weigh 147 = .ok (.aload_n 0, 1) := by decide +kernel
theorem dX1_weigh_148 : decode cX1_weigh 148 = .ok (.iload 5, 2) := by decide +kernel
theorem dX1_weigh_150 : decode cX1_weigh 150 = .ok (.putfield 39, 3) := by decide +kernel
theorem dX1_weigh_153 : decode cX1_weigh 153 = .ok (.return_, 1) := by decide +kernel
theorem bX1_weigh_0 {G : GX} {h : mH} {Q : mO → mH → Prop} {v1 : Int32} {v2 : Int32} {v3 : Int32} {v4 : Int32} (hi : Iv h) (K : Vw G jX1_weigh 9 [some (.ref 71), some (.int v1), some (.int v2), some (.int v3), some (.int v4), some (.int 0), some (.int 1), some (.int 0), none] [] h Q) : Vw G jX1_weigh 0 [some (.ref 71), some (.int v1), some (.int v2), some (.int v3), some (.int v4), none, none, none, none] [] h Q :=
  s_iconst 0 dX1_weigh_0 (by decide) (s_istore dX1_weigh_1 (Nat.le_of_ble_eq_true rfl) rfl (s_iconst 1 dX1_weigh_3 (by decide) (s_istore dX1_weigh_4 (Nat.le_of_ble_eq_true rfl) rfl (s_iconst 0 dX1_weigh_6 (by decide) (s_istore dX1_weigh_7 (Nat.le_of_ble_eq_true rfl) rfl (K))))))
theorem bX1_weigh_9 {G : GX} {h : mH} {Q : mO → mH → Prop} {v1 : Int32} {v2 : Int32} {v3 : Int32} {v4 : Int32} {v5 : Int32} {v6 : Int32} {v7 : Int32} (hi : Iv h) (K : (v3 ≤ v7 → ((v6 = 0 → Vw G jX1_weigh 124 [some (.ref 71), none, none, none, none, some (.int v5), none, some (.int ((100 * (fX1_figures v1)) + (fX1_figures v2))), none] [] h Q) ∧ (¬ v6 = 0 → ((¬ (gI (pI h 71 0 ((gI h 71 0) + 1)) 71 1) = (-1) → Vw G jX1_weigh 124 [some (.ref 71), none, none, none, none, some (.int v5), none, some (.int ((100 * (fX1_figures v1)) + (fX1_figures v2))), none] [] (pI (pI h 71 0 ((gI h 71 0) + 1)) 71 1 (gI (pI h 71 0 ((gI h 71 0) + 1)) 71 1)) Q) ∧ ((gI (pI h 71 0 ((gI h 71 0) + 1)) 71 1) = (-1) → Vw G jX1_weigh 124 [some (.ref 71), none, none, none, none, some (.int v5), none, some (.int ((100 * (fX1_figures v1)) + (fX1_figures v2))), none] [] (pI (pI h 71 0 ((gI h 71 0) + 1)) 71 1 ((100 * (fX1_figures v1)) + (fX1_figures v2))) Q))))) ∧ (¬ v3 ≤ v7 → (vp_in ((fX1_offOf 0 v1) + v7) 432 ∧ (vp_in ((fX1_offOf 1 v2) + v7) 432 ∧ ((v4 < ((gI h 73 (Int32.toNatClampNeg ((fX1_offOf 0 v1) + v7))) + (gI h 73 (Int32.toNatClampNeg ((fX1_offOf 1 v2) + v7)))) → Vw G jX1_weigh 9 [some (.ref 71), some (.int v1), some (.int v2), some (.int v3), some (.int v4), some (.int (v5 + ((gI h 73 (Int32.toNatClampNeg ((fX1_offOf 0 v1) + v7))) + (gI h 73 (Int32.toNatClampNeg ((fX1_offOf 1 v2) + v7)))))), some (.int (v6 &&& (0 : Int32))), some (.int (v7 + 1)), none] [] h Q) ∧ (¬ v4 < ((gI h 73 (Int32.toNatClampNeg ((fX1_offOf 0 v1) + v7))) + (gI h 73 (Int32.toNatClampNeg ((fX1_offOf 1 v2) + v7)))) → Vw G jX1_weigh 9 [some (.ref 71), some (.int v1), some (.int v2), some (.int v3), some (.int v4), some (.int (v5 + ((gI h 73 (Int32.toNatClampNeg ((fX1_offOf 0 v1) + v7))) + (gI h 73 (Int32.toNatClampNeg ((fX1_offOf 1 v2) + v7)))))), some (.int (v6 &&& (1 : Int32))), some (.int (v7 + 1)), none] [] h Q)))))) : Vw G jX1_weigh 9 [some (.ref 71), some (.int v1), some (.int v2), some (.int v3), some (.int v4), some (.int v5), some (.int v6), some (.int v7), none] [] h Q :=
  s_iload dX1_weigh_9 rfl (s_iload_n dX1_weigh_11 rfl (s_icmp_ge 74 dX1_weigh_12 rfl (fun q2 => s_bipush 100 dX1_weigh_74 (by decide) (s_iload_n dX1_weigh_76 rfl (s_callS (As := [.int v1]) dX1_weigh_77 rfl lsX1_81 ⟨Nat.le_of_ble_eq_true rfl, Nat.le_of_ble_eq_true rfl⟩ rfl (Nat.le_of_ble_eq_true rfl) (mX1_figures   (s_imul dX1_weigh_80 (s_iload_n dX1_weigh_81 rfl (s_callS (As := [.int v2]) dX1_weigh_82 rfl lsX1_81 ⟨Nat.le_of_ble_eq_true rfl, Nat.le_of_ble_eq_true rfl⟩ rfl (Nat.le_of_ble_eq_true rfl) (mX1_figures   (s_iadd dX1_weigh_85 (s_istore dX1_weigh_86 (Nat.le_of_ble_eq_true rfl) rfl (s_iload dX1_weigh_88 rfl (s_if_eq 124 dX1_weigh_90 rfl (fun q12 => Vw.mask [true, false, false, false, false, true, false, true, false] (((K.1 q2).1 q12))) (fun q12 => s_aload_n dX1_weigh_93 rfl (s_dupr dX1_weigh_94 (s_getI dX1_weigh_95 flX1_29 (Or.inl rfl) (hi.sh rfl rfl) (s_iconst 1 dX1_weigh_98 (by decide) (s_iadd dX1_weigh_99 (s_putI dX1_weigh_100 flX1_29 ff1_0 rfl (hi.sh rfl rfl) (s_aload_n dX1_weigh_103 rfl (s_aload_n dX1_weigh_104 rfl (s_getI dX1_weigh_105 flX1_33 (Or.inl rfl) (hi.sh rfl rfl) (s_iconst (-1) dX1_weigh_108 (by decide) (s_icmp_ne 117 dX1_weigh_109 rfl (fun q23 => s_aload_n dX1_weigh_117 rfl (s_getI dX1_weigh_118 flX1_33 (Or.inl rfl) (hi.sh rfl rfl) (s_putI dX1_weigh_121 flX1_33 ff1_1 rfl (hi.sh rfl rfl) (Vw.mask [true, false, false, false, false, true, false, true, false] ((((K.1 q2).2 q12).1 q23)))))) (fun q23 => s_iload dX1_weigh_112 rfl (s_goto 121 dX1_weigh_114 rfl (s_putI dX1_weigh_121 flX1_33 ff1_1 rfl (hi.sh rfl rfl) (Vw.mask [true, false, false, false, false, true, false, true, false] ((((K.1 q2).2 q12).2 q23))))))))))))))))))))))))))))) (fun q2 => s_aload_n dX1_weigh_15 rfl (s_getR (v := .ref 73) dX1_weigh_16 flX1_15 rfl (hi.sh rfl rfl) (hi.rf (o := 71) (k := 9) (d := 2) rfl rfl) (s_iconst 0 dX1_weigh_19 (by decide) (s_iload_n dX1_weigh_20 rfl (s_callS (As := [.int 0, .int v1]) dX1_weigh_21 rfl lsX1_69 ⟨Nat.le_of_ble_eq_true rfl, Nat.le_of_ble_eq_true rfl⟩ rfl (Nat.le_of_ble_eq_true rfl) (mX1_offOf   (s_iload dX1_weigh_24 rfl (s_iadd dX1_weigh_26 (s_iaload dX1_weigh_27 (hi.sh rfl rfl) (K.2 q2).1 (s_aload_n dX1_weigh_28 rfl (s_getR (v := .ref 73) dX1_weigh_29 flX1_15 rfl (hi.sh rfl rfl) (hi.rf (o := 71) (k := 9) (d := 2) rfl rfl) (s_iconst 1 dX1_weigh_32 (by decide) (s_iload_n dX1_weigh_33 rfl (s_callS (As := [.int 1, .int v2]) dX1_weigh_34 rfl lsX1_69 ⟨Nat.le_of_ble_eq_true rfl, Nat.le_of_ble_eq_true rfl⟩ rfl (Nat.le_of_ble_eq_true rfl) (mX1_offOf   (s_iload dX1_weigh_37 rfl (s_iadd dX1_weigh_39 (s_iaload dX1_weigh_40 (hi.sh rfl rfl) (K.2 q2).2.1 (s_iadd dX1_weigh_41 (s_istore dX1_weigh_42 (Nat.le_of_ble_eq_true rfl) rfl (s_iload dX1_weigh_44 rfl (s_iload dX1_weigh_46 rfl (s_iadd dX1_weigh_48 (s_istore dX1_weigh_49 (Nat.le_of_ble_eq_true rfl) rfl (s_iload dX1_weigh_51 rfl (s_iload dX1_weigh_53 rfl (s_iload dX1_weigh_55 rfl (s_icmp_gt 64 dX1_weigh_57 rfl (fun q28 => s_iconst 0 dX1_weigh_64 (by decide) (s_iand dX1_weigh_65 (s_istore dX1_weigh_66 (Nat.le_of_ble_eq_true rfl) rfl (s_iinc 1 dX1_weigh_68 rfl (by decide) (Nat.le_of_ble_eq_true rfl) rfl (s_goto 9 dX1_weigh_71 rfl (Vw.mask [true, true, true, true, true, true, true, true, false] (((K.2 q2).2.2.1 q28)))))))) (fun q28 => s_iconst 1 dX1_weigh_60 (by decide) (s_goto 65 dX1_weigh_61 rfl (s_iand dX1_weigh_65 (s_istore dX1_weigh_66 (Nat.le_of_ble_eq_true rfl) rfl (s_iinc 1 dX1_weigh_68 rfl (by decide) (Nat.le_of_ble_eq_true rfl) rfl (s_goto 9 dX1_weigh_71 rfl (Vw.mask [true, true, true, true, true, true, true, true, false] (((K.2 q2).2.2.2 q28)))))))))))))))))))))))))))))))))))))))
theorem bX1_weigh_124 {G : GX} {h : mH} {Q : mO → mH → Prop} {v5 : Int32} {v7 : Int32} (hi : Iv h) (K : ((gI h 71 2) = (-1) → Vw G jX1_weigh 141 [some (.ref 71), none, none, none, none, some (.int v5), none, some (.int v7), none] [] h Q) ∧ (¬ (gI h 71 2) = (-1) → (((gI h 71 3) ≤ v5 → Q (.inl none) h) ∧ (¬ (gI h 71 3) ≤ v5 → Vw G jX1_weigh 141 [some (.ref 71), none, none, none, none, some (.int v5), none, some (.int v7), none] [] h Q)))) : Vw G jX1_weigh 124 [some (.ref 71), none, none, none, none, some (.int v5), none, some (.int v7), none] [] h Q :=
  s_aload_n dX1_weigh_124 rfl (s_getI dX1_weigh_125 flX1_36 (Or.inl rfl) (hi.sh rfl rfl) (s_iconst (-1) dX1_weigh_128 (by decide) (s_icmp_eq 141 dX1_weigh_129 rfl (fun q3 => (K.1 q3)) (fun q3 => s_iload dX1_weigh_132 rfl (s_aload_n dX1_weigh_134 rfl (s_getI dX1_weigh_135 flX1_39 (Or.inl rfl) (hi.sh rfl rfl) (s_icmp_ge 153 dX1_weigh_138 rfl (fun q7 => s_return dX1_weigh_153 rfl ((K.2 q3).1 q7)) (fun q7 => ((K.2 q3).2 q7)))))))))
theorem bX1_weigh_141 {G : GX} {h : mH} {Q : mO → mH → Prop} {v5 : Int32} {v7 : Int32} (hi : Iv h) (K : Q (.inl none) (pI (pI h 71 2 v7) 71 3 v5)) : Vw G jX1_weigh 141 [some (.ref 71), none, none, none, none, some (.int v5), none, some (.int v7), none] [] h Q :=
  s_aload_n dX1_weigh_141 rfl (s_iload dX1_weigh_142 rfl (s_putI dX1_weigh_144 flX1_36 ff1_2 rfl (hi.sh rfl rfl) (s_aload_n dX1_weigh_147 rfl (s_iload dX1_weigh_148 rfl (s_putI dX1_weigh_150 flX1_39 ff1_3 rfl (hi.sh rfl rfl) (s_return dX1_weigh_153 rfl K))))))
theorem eX1_weigh {G : GX} {h : mH} {Q : mO → mH → Prop} {v1 : Int32} {v2 : Int32} {v3 : Int32} {v4 : Int32} (hi : Iv h) (K : Vw G jX1_weigh 9 [some (.ref 71), some (.int v1), some (.int v2), some (.int v3), some (.int v4), some (.int 0), some (.int 1), some (.int 0), none] [] h Q) : WM G jX1_weigh [.ref 71, .int v1, .int v2, .int v3, .int v4] h Q :=
  WM.body (ls := [some (.ref 71), some (.int v1), some (.int v2), some (.int v3), some (.int v4), none, none, none, none]) rfl (by decide +kernel) rfl (Nat.le_of_ble_eq_true rfl) rfl ((bX1_weigh_0 hi  K))
theorem dX1_weighAll_0 : decode cX1_weighAll 0 = .ok (.iconst 0, 1) := by decide +kernel
theorem dX1_weighAll_1 : decode cX1_weighAll 1 = .ok (.istore 5, 2) := by decide +kernel
theorem dX1_weighAll_3 : decode cX1_weighAll 3 = .ok (.iload 5, 2) := by decide +kernel
theorem dX1_weighAll_5 : decode cX1_weighAll 5 = .ok (.iload_n 3, 1) := by decide +kernel
theorem dX1_weighAll_6 : decode cX1_weighAll 6 = .ok (.if_icmp .gt 40, 3) := by decide +kernel
theorem dX1_weighAll_9 : decode cX1_weighAll 9 = .ok (.iconst 0, 1) := by decide +kernel
theorem dX1_weighAll_10 : decode cX1_weighAll 10 = .ok (.istore 6, 2) := by decide +kernel
theorem dX1_weighAll_12 : decode cX1_weighAll 12 = .ok (.iload 6, 2) := by decide +kernel
theorem dX1_weighAll_14 : decode cX1_weighAll 14 = .ok (.iload_n 3, 1) := by decide +kernel
theorem dX1_weighAll_15 : decode cX1_weighAll 15 = .ok (.if_icmp .gt 25, 3) := by decide +kernel
theorem dX1_weighAll_18 : decode cX1_weighAll 18 = .ok (.aload_n 0, 1) := by decide +kernel
theorem dX1_weighAll_19 : decode cX1_weighAll 19 = .ok (.iload_n 1, 1) := by decide +kernel
theorem dX1_weighAll_20 : decode cX1_weighAll 20 = .ok (.bipush 6, 2) := by decide +kernel
theorem dX1_weighAll_22 : decode cX1_weighAll 22 = .ok (.iload 5, 2) := by decide +kernel
theorem dX1_weighAll_24 : decode cX1_weighAll 24 = .ok (.imul, 1) := by decide +kernel
theorem dX1_weighAll_25 : decode cX1_weighAll 25 = .ok (.iload 6, 2) := by decide +kernel
theorem dX1_weighAll_27 : decode cX1_weighAll 27 = .ok (.iadd, 1) := by decide +kernel
theorem dX1_weighAll_28 : decode cX1_weighAll 28 = .ok (.iload_n 2, 1) := by decide +kernel
theorem dX1_weighAll_29 : decode cX1_weighAll 29 = .ok (.iload 4, 2) := by decide +kernel
theorem dX1_weighAll_31 : decode cX1_weighAll 31 = .ok (.invokevirtual 78, 3) := by decide +kernel
theorem dX1_weighAll_34 : decode cX1_weighAll 34 = .ok (.iinc 6 1, 3) := by decide +kernel
theorem dX1_weighAll_37 : decode cX1_weighAll 37 = .ok (.goto (-25), 3) := by decide +kernel
theorem dX1_weighAll_40 : decode cX1_weighAll 40 = .ok (.iinc 5 1, 3) := by decide +kernel
theorem dX1_weighAll_43 : decode cX1_weighAll 43 = .ok (.goto (-40), 3) := by decide +kernel
theorem dX1_weighAll_46 : decode cX1_weighAll 46 = .ok (.return_, 1) := by decide +kernel
theorem bX1_weighAll_0 {G : GX} {h : mH} {Q : mO → mH → Prop} {v1 : Int32} {v2 : Int32} {v3 : Int32} {v4 : Int32} (hi : Iv h) (K : Vw G jX1_weighAll 3 [some (.ref 71), some (.int v1), some (.int v2), some (.int v3), some (.int v4), some (.int 0), none] [] h Q) : Vw G jX1_weighAll 0 [some (.ref 71), some (.int v1), some (.int v2), some (.int v3), some (.int v4), none, none] [] h Q :=
  s_iconst 0 dX1_weighAll_0 (by decide) (s_istore dX1_weighAll_1 (Nat.le_of_ble_eq_true rfl) rfl (K))
theorem bX1_weighAll_3 {G : GX} {h : mH} {Q : mO → mH → Prop} {v1 : Int32} {v2 : Int32} {v3 : Int32} {v4 : Int32} {v5 : Int32} (hi : Iv h) (K : (v3 < v5 → Q (.inl none) h) ∧ (¬ v3 < v5 → Vw G jX1_weighAll 12 [some (.ref 71), some (.int v1), some (.int v2), some (.int v3), some (.int v4), some (.int v5), some (.int 0)] [] h Q)) : Vw G jX1_weighAll 3 [some (.ref 71), some (.int v1), some (.int v2), some (.int v3), some (.int v4), some (.int v5), none] [] h Q :=
  s_iload dX1_weighAll_3 rfl (s_iload_n dX1_weighAll_5 rfl (s_icmp_gt 46 dX1_weighAll_6 rfl (fun q2 => s_return dX1_weighAll_46 rfl (K.1 q2)) (fun q2 => s_iconst 0 dX1_weighAll_9 (by decide) (s_istore dX1_weighAll_10 (Nat.le_of_ble_eq_true rfl) rfl ((K.2 q2))))))
theorem bX1_weighAll_12 {G : GX} {h : mH} {Q : mO → mH → Prop} {v1 : Int32} {v2 : Int32} {v3 : Int32} {v4 : Int32} {v5 : Int32} {v6 : Int32} (hi : Iv h) (K : (v3 < v6 → Vw G jX1_weighAll 3 [some (.ref 71), some (.int v1), some (.int v2), some (.int v3), some (.int v4), some (.int (v5 + 1)), none] [] h Q) ∧ (¬ v3 < v6 → WM G jX1_weigh [.ref 71, .int v1, .int ((6 * v5) + v6), .int v2, .int v4] h (Aft G jX1_weighAll 31 [some (.ref 71), some (.int v1), some (.int v2), some (.int v3), some (.int v4), some (.int v5), some (.int v6)] [] Q))) : Vw G jX1_weighAll 12 [some (.ref 71), some (.int v1), some (.int v2), some (.int v3), some (.int v4), some (.int v5), some (.int v6)] [] h Q :=
  s_iload dX1_weighAll_12 rfl (s_iload_n dX1_weighAll_14 rfl (s_icmp_gt 40 dX1_weighAll_15 rfl (fun q2 => s_iinc 1 dX1_weighAll_40 rfl (by decide) (Nat.le_of_ble_eq_true rfl) rfl (s_goto 3 dX1_weighAll_43 rfl (Vw.mask [true, true, true, true, true, true, false] ((K.1 q2))))) (fun q2 => s_aload_n dX1_weighAll_18 rfl (s_iload_n dX1_weighAll_19 rfl (s_bipush 6 dX1_weighAll_20 (by decide) (s_iload dX1_weighAll_22 rfl (s_imul dX1_weighAll_24 (s_iload dX1_weighAll_25 rfl (s_iadd dX1_weighAll_27 (s_iload_n dX1_weighAll_28 rfl (s_iload dX1_weighAll_29 rfl (s_callV (As := [.int v1, .int ((6 * v5) + v6), .int v2, .int v4]) dX1_weighAll_31 rfl lvX1_78 ⟨Nat.le_of_ble_eq_true rfl, Nat.le_of_ble_eq_true rfl⟩ (hi.sh rfl rfl) ⟨_, _, by decide, rfl⟩ rfl (Nat.le_of_ble_eq_true rfl) ((K.2 q2))))))))))))))
theorem bX1_weighAll_34 {G : GX} {h : mH} {Q : mO → mH → Prop} {v1 : Int32} {v2 : Int32} {v3 : Int32} {v4 : Int32} {v5 : Int32} {v6 : Int32} (hi : Iv h) (K : Vw G jX1_weighAll 12 [some (.ref 71), some (.int v1), some (.int v2), some (.int v3), some (.int v4), some (.int v5), some (.int (v6 + 1))] [] h Q) : Vw G jX1_weighAll 34 [some (.ref 71), some (.int v1), some (.int v2), some (.int v3), some (.int v4), some (.int v5), some (.int v6)] [] h Q :=
  s_iinc 1 dX1_weighAll_34 rfl (by decide) (Nat.le_of_ble_eq_true rfl) rfl (s_goto 12 dX1_weighAll_37 rfl (K))
theorem eX1_weighAll {G : GX} {h : mH} {Q : mO → mH → Prop} {v1 : Int32} {v2 : Int32} {v3 : Int32} {v4 : Int32} (hi : Iv h) (K : Vw G jX1_weighAll 3 [some (.ref 71), some (.int v1), some (.int v2), some (.int v3), some (.int v4), some (.int 0), none] [] h Q) : WM G jX1_weighAll [.ref 71, .int v1, .int v2, .int v3, .int v4] h Q :=
  WM.body (ls := [some (.ref 71), some (.int v1), some (.int v2), some (.int v3), some (.int v4), none, none]) rfl (by decide +kernel) rfl (Nat.le_of_ble_eq_true rfl) rfl ((bX1_weighAll_0 hi  K))
theorem dX1_findRows_0 : decode cX1_findRows 0 = .ok (.aload_n 0, 1) := by decide +kernel
theorem dX1_findRows_1 : decode cX1_findRows 1 = .ok (.aload_n 1, 1) := by decide +kernel
theorem dX1_findRows_2 : decode cX1_findRows 2 = .ok (.aload_n 2, 1) := by decide +kernel
theorem dX1_findRows_3 : decode cX1_findRows 3 = .ok (.iload_n 3, 1) := by decide +kernel
theorem dX1_findRows_4 : decode cX1_findRows 4 = .ok (.invokevirtual 21, 3) := by decide +kernel
theorem dX1_findRows_7 : decode cX1_findRows 7 = .ok (.aload_n 0, 1) := by decide +kernel
theorem dX1_findRows_8 : decode cX1_findRows 8 = .ok (.aload_n 1, 1) := by decide +kernel
theorem dX1_findRows_9 : decode cX1_findRows 9 = .ok (.aload_n 2, 1) := by decide +kernel
theorem dX1_findRows_10 : decode cX1_findRows 10 = .ok (.iload_n 3, 1) := by decide +kernel
theorem dX1_findRows_11 : decode cX1_findRows 11 = .ok (.iconst 0, 1) := by decide +kernel
theorem dX1_findRows_12 : decode cX1_findRows 12 = .ok (.invokevirtual 25, 3) := by decide +kernel
theorem dX1_findRows_15 : decode cX1_findRows 15 = .ok (.aload_n 0, 1) := by decide +kernel
theorem dX1_findRows_16 : decode cX1_findRows 16 = .ok (.aload_n 1, 1) := by decide +kernel
theorem dX1_findRows_17 : decode cX1_findRows 17 = .ok (.aload_n 2, 1) := by decide +kernel
theorem dX1_findRows_18 : decode cX1_findRows 18 = .ok (.iload_n 3, 1) := by decide +kernel
theorem dX1_findRows_19 : decode cX1_findRows 19 = .ok (.iconst 1, 1) := by decide +kernel
theorem dX1_findRows_20 : decode cX1_findRows 20 = .ok (.invokevirtual 25, 3) := by decide +kernel
theorem dX1_findRows_23 : decode cX1_findRows 23 = .ok (.aload_n 0, 1) := by decide +kernel
theorem dX1_findRows_24 : decode cX1_findRows 24 = .ok (.iconst 0, 1) := by decide +kernel
theorem dX1_findRows_25 : decode cX1_findRows 25 = .ok (.putfield 29, 3) := by decide +kernel
theorem dX1_findRows_28 : decode cX1_findRows 28 = .ok (.aload_n 0, 1) := by decide +kernel
theorem dX1_findRows_29 : decode cX1_findRows 29 = .ok (.iconst (-1), 1) := by decide +kernel
theorem dX1_findRows_30 : decode cX1_findRows 30 = .ok (.putfield 33, 3) := by decide +kernel
theorem dX1_findRows_33 : decode cX1_findRows 33 = .ok (.aload_n 0, 1) := by decide +kernel
theorem dX1_findRows_34 : decode cX1_findRows 34 = .ok (.iconst (-1), 1) := by decide +kernel
theorem dX1_findRows_35 : decode cX1_findRows 35 = .ok (.putfield 36, 3) := by decide +kernel
theorem dX1_findRows_38 : decode cX1_findRows 38 = .ok (.aload_n 0, 1) := by decide +kernel
theorem dX1_findRows_39 : decode cX1_findRows 39 = .ok (.iconst 0, 1) := by decide +kernel
theorem dX1_findRows_40 : decode cX1_findRows 40 = .ok (.putfield 39, 3) := by decide +kernel
theorem dX1_findRows_43 : decode cX1_findRows 43 = .ok (.iconst 0, 1) := by decide +kernel
theorem dX1_findRows_44 : decode cX1_findRows 44 = .ok (.istore 5, 2) := by decide +kernel
theorem dX1_findRows_46 : decode cX1_findRows 46 = .ok (.iload 5, 2) := by decide +kernel
theorem dX1_findRows_48 : decode cX1_findRows 48 = .ok (.iload_n 3, 1) := by decide +kernel
theorem dX1_findRows_49 : decode cX1_findRows 49 = .ok (.if_icmp .gt 43, 3) := by decide +kernel
theorem dX1_findRows_52 : decode cX1_findRows 52 = .ok (.iconst 0, 1) := by decide +kernel
theorem dX1_findRows_53 : decode cX1_findRows 53 = .ok (.istore 6, 2) := by decide +kernel
theorem dX1_findRows_55 : decode cX1_findRows 55 = .ok (.iload 6, 2) := by decide +kernel
theorem dX1_findRows_57 : decode cX1_findRows 57 = .ok (.iload_n 3, 1) := by decide +kernel
theorem dX1_findRows_58 : decode cX1_findRows 58 = .ok (.if_icmp .gt 28, 3) := by decide +kernel
theorem dX1_findRows_61 : decode cX1_findRows 61 = .ok (.aload_n 0, 1) := by decide +kernel
theorem dX1_findRows_62 : decode cX1_findRows 62 = .ok (.bipush 6, 2) := by decide +kernel
theorem dX1_findRows_64 : decode cX1_findRows 64 = .ok (.iload 5, 2) := by decide +kernel
theorem dX1_findRows_66 : decode cX1_findRows 66 = .ok (.imul, 1) := by decide +kernel
theorem dX1_findRows_67 : decode cX1_findRows 67 = .ok (.iload 6, 2) := by decide +kernel
theorem dX1_findRows_69 : decode cX1_findRows 69 = .ok (.iadd, 1) := by decide +kernel
theorem dX1_findRows_70 : decode cX1_findRows 70 = .ok (.aload_n 2, 1) := by decide +kernel
theorem dX1_findRows_71 : decode cX1_findRows 71 = .ok (.getfield 42, 3) := by decide +kernel
theorem dX1_findRows_74 : decode cX1_findRows 74 = .ok (.iload_n 3, 1) := by decide +kernel
theorem dX1_findRows_75 : decode cX1_findRows 75 = .ok (.iload 4, 2) := by decide +kernel
theorem dX1_findRows_77 : decode cX1_findRows 77 = .ok (.invokevirtual 47, 3) := by decide +kernel
theorem dX1_findRows_80 : decode cX1_findRows 80 = .ok (.iinc 6 1, 3) := by decide +kernel
theorem dX1_findRows_83 : decode cX1_findRows 83 = .ok (.goto (-28), 3) := by decide +kernel
theorem dX1_findRows_86 : decode cX1_findRows 86 = .ok (.iinc 5 1, 3) := by decide +kernel
theorem dX1_findRows_89 : decode cX1_findRows 89 = .ok (.goto (-43), 3) := by decide +kernel
theorem dX1_findRows_92 : decode cX1_findRows 92 = .ok (.return_, 1) := by decide +kernel
theorem bX1_findRows_0 {G : GX} {h : mH} {Q : mO → mH → Prop} {r1 : Nat} {r2 : Nat} {v3 : Int32} {v4 : Int32} (hi : Iv h) (k1 : kd r1 = (2, 11)) (k2 : kd r2 = (3, 7)) (K : WM G jX1_findPlaces [.ref 71, .ref r1, .ref r2, .int v3] h (Aft G jX1_findRows 4 [some (.ref 71), some (.ref r1), some (.ref r2), some (.int v3), some (.int v4), none, none] [] Q)) : Vw G jX1_findRows 0 [some (.ref 71), some (.ref r1), some (.ref r2), some (.int v3), some (.int v4), none, none] [] h Q :=
  s_aload_n dX1_findRows_0 rfl (s_aload_n dX1_findRows_1 rfl (s_aload_n dX1_findRows_2 rfl (s_iload_n dX1_findRows_3 rfl (s_callV (As := [.ref r1, .ref r2, .int v3]) dX1_findRows_4 rfl lvX1_21 ⟨Nat.le_of_ble_eq_true rfl, Nat.le_of_ble_eq_true rfl⟩ (hi.sh rfl rfl) ⟨_, _, by decide, rfl⟩ rfl (Nat.le_of_ble_eq_true rfl) (K)))))
theorem bX1_findRows_7 {G : GX} {h : mH} {Q : mO → mH → Prop} {r1 : Nat} {r2 : Nat} {v3 : Int32} {v4 : Int32} (hi : Iv h) (k1 : kd r1 = (2, 11)) (k2 : kd r2 = (3, 7)) (K : WM G jX1_findOffs [.ref 71, .ref r1, .ref r2, .int v3, .int 0] h (Aft G jX1_findRows 12 [some (.ref 71), some (.ref r1), some (.ref r2), some (.int v3), some (.int v4), none, none] [] Q)) : Vw G jX1_findRows 7 [some (.ref 71), some (.ref r1), some (.ref r2), some (.int v3), some (.int v4), none, none] [] h Q :=
  s_aload_n dX1_findRows_7 rfl (s_aload_n dX1_findRows_8 rfl (s_aload_n dX1_findRows_9 rfl (s_iload_n dX1_findRows_10 rfl (s_iconst 0 dX1_findRows_11 (by decide) (s_callV (As := [.ref r1, .ref r2, .int v3, .int 0]) dX1_findRows_12 rfl lvX1_25 ⟨Nat.le_of_ble_eq_true rfl, Nat.le_of_ble_eq_true rfl⟩ (hi.sh rfl rfl) ⟨_, _, by decide, rfl⟩ rfl (Nat.le_of_ble_eq_true rfl) (K))))))
theorem bX1_findRows_15 {G : GX} {h : mH} {Q : mO → mH → Prop} {r1 : Nat} {r2 : Nat} {v3 : Int32} {v4 : Int32} (hi : Iv h) (k1 : kd r1 = (2, 11)) (k2 : kd r2 = (3, 7)) (K : WM G jX1_findOffs [.ref 71, .ref r1, .ref r2, .int v3, .int 1] h (Aft G jX1_findRows 20 [some (.ref 71), none, some (.ref r2), some (.int v3), some (.int v4), none, none] [] Q)) : Vw G jX1_findRows 15 [some (.ref 71), some (.ref r1), some (.ref r2), some (.int v3), some (.int v4), none, none] [] h Q :=
  s_aload_n dX1_findRows_15 rfl (s_aload_n dX1_findRows_16 rfl (s_aload_n dX1_findRows_17 rfl (s_iload_n dX1_findRows_18 rfl (s_iconst 1 dX1_findRows_19 (by decide) (Vw.mask [true, false, true, true, true, false, false] (s_callV (As := [.ref r1, .ref r2, .int v3, .int 1]) dX1_findRows_20 rfl lvX1_25 ⟨Nat.le_of_ble_eq_true rfl, Nat.le_of_ble_eq_true rfl⟩ (hi.sh rfl rfl) ⟨_, _, by decide, rfl⟩ rfl (Nat.le_of_ble_eq_true rfl) (K)))))))
theorem bX1_findRows_23 {G : GX} {h : mH} {Q : mO → mH → Prop} {r2 : Nat} {v3 : Int32} {v4 : Int32} (hi : Iv h) (k2 : kd r2 = (3, 7)) (K : Vw G jX1_findRows 46 [some (.ref 71), none, some (.ref r2), some (.int v3), some (.int v4), some (.int 0), none] [] (pI (pI (pI (pI h 71 0 0) 71 1 (-1)) 71 2 (-1)) 71 3 0) Q) : Vw G jX1_findRows 23 [some (.ref 71), none, some (.ref r2), some (.int v3), some (.int v4), none, none] [] h Q :=
  s_aload_n dX1_findRows_23 rfl (s_iconst 0 dX1_findRows_24 (by decide) (s_putI dX1_findRows_25 flX1_29 ff1_0 rfl (hi.sh rfl rfl) (s_aload_n dX1_findRows_28 rfl (s_iconst (-1) dX1_findRows_29 (by decide) (s_putI dX1_findRows_30 flX1_33 ff1_1 rfl (hi.sh rfl rfl) (s_aload_n dX1_findRows_33 rfl (s_iconst (-1) dX1_findRows_34 (by decide) (s_putI dX1_findRows_35 flX1_36 ff1_2 rfl (hi.sh rfl rfl) (s_aload_n dX1_findRows_38 rfl (s_iconst 0 dX1_findRows_39 (by decide) (s_putI dX1_findRows_40 flX1_39 ff1_3 rfl (hi.sh rfl rfl) (s_iconst 0 dX1_findRows_43 (by decide) (s_istore dX1_findRows_44 (Nat.le_of_ble_eq_true rfl) rfl (K))))))))))))))
theorem bX1_findRows_46 {G : GX} {h : mH} {Q : mO → mH → Prop} {r2 : Nat} {v3 : Int32} {v4 : Int32} {v5 : Int32} (hi : Iv h) (k2 : kd r2 = (3, 7)) (K : (v3 < v5 → Q (.inl none) h) ∧ (¬ v3 < v5 → Vw G jX1_findRows 55 [some (.ref 71), none, some (.ref r2), some (.int v3), some (.int v4), some (.int v5), some (.int 0)] [] h Q)) : Vw G jX1_findRows 46 [some (.ref 71), none, some (.ref r2), some (.int v3), some (.int v4), some (.int v5), none] [] h Q :=
  s_iload dX1_findRows_46 rfl (s_iload_n dX1_findRows_48 rfl (s_icmp_gt 92 dX1_findRows_49 rfl (fun q2 => s_return dX1_findRows_92 rfl (K.1 q2)) (fun q2 => s_iconst 0 dX1_findRows_52 (by decide) (s_istore dX1_findRows_53 (Nat.le_of_ble_eq_true rfl) rfl ((K.2 q2))))))
theorem bX1_findRows_55 {G : GX} {h : mH} {Q : mO → mH → Prop} {r2 : Nat} {v3 : Int32} {v4 : Int32} {v5 : Int32} {v6 : Int32} (hi : Iv h) (k2 : kd r2 = (3, 7)) (K : (v3 < v6 → Vw G jX1_findRows 46 [some (.ref 71), none, some (.ref r2), some (.int v3), some (.int v4), some (.int (v5 + 1)), none] [] h Q) ∧ (¬ v3 < v6 → WM G jX1_weighAll [.ref 71, .int ((6 * v5) + v6), .int (gI h r2 3), .int v3, .int v4] h (Aft G jX1_findRows 77 [some (.ref 71), none, some (.ref r2), some (.int v3), some (.int v4), some (.int v5), some (.int v6)] [] Q))) : Vw G jX1_findRows 55 [some (.ref 71), none, some (.ref r2), some (.int v3), some (.int v4), some (.int v5), some (.int v6)] [] h Q :=
  s_iload dX1_findRows_55 rfl (s_iload_n dX1_findRows_57 rfl (s_icmp_gt 86 dX1_findRows_58 rfl (fun q2 => s_iinc 1 dX1_findRows_86 rfl (by decide) (Nat.le_of_ble_eq_true rfl) rfl (s_goto 46 dX1_findRows_89 rfl (Vw.mask [true, false, true, true, true, true, false] ((K.1 q2))))) (fun q2 => s_aload_n dX1_findRows_61 rfl (s_bipush 6 dX1_findRows_62 (by decide) (s_iload dX1_findRows_64 rfl (s_imul dX1_findRows_66 (s_iload dX1_findRows_67 rfl (s_iadd dX1_findRows_69 (s_aload_n dX1_findRows_70 rfl (s_getI dX1_findRows_71 flX1_42 (Or.inl rfl) (hi.sh k2 rfl) (s_iload_n dX1_findRows_74 rfl (s_iload dX1_findRows_75 rfl (s_callV (As := [.int ((6 * v5) + v6), .int (gI h r2 3), .int v3, .int v4]) dX1_findRows_77 rfl lvX1_47 ⟨Nat.le_of_ble_eq_true rfl, Nat.le_of_ble_eq_true rfl⟩ (hi.sh rfl rfl) ⟨_, _, by decide, rfl⟩ rfl (Nat.le_of_ble_eq_true rfl) ((K.2 q2)))))))))))))))
theorem bX1_findRows_80 {G : GX} {h : mH} {Q : mO → mH → Prop} {r2 : Nat} {v3 : Int32} {v4 : Int32} {v5 : Int32} {v6 : Int32} (hi : Iv h) (k2 : kd r2 = (3, 7)) (K : Vw G jX1_findRows 55 [some (.ref 71), none, some (.ref r2), some (.int v3), some (.int v4), some (.int v5), some (.int (v6 + 1))] [] h Q) : Vw G jX1_findRows 80 [some (.ref 71), none, some (.ref r2), some (.int v3), some (.int v4), some (.int v5), some (.int v6)] [] h Q :=
  s_iinc 1 dX1_findRows_80 rfl (by decide) (Nat.le_of_ble_eq_true rfl) rfl (s_goto 55 dX1_findRows_83 rfl (K))
theorem eX1_findRows {G : GX} {h : mH} {Q : mO → mH → Prop} {r1 : Nat} {r2 : Nat} {v3 : Int32} {v4 : Int32} (hi : Iv h) (k1 : kd r1 = (2, 11)) (k2 : kd r2 = (3, 7)) (K : WM G jX1_findPlaces [.ref 71, .ref r1, .ref r2, .int v3] h (Aft G jX1_findRows 4 [some (.ref 71), some (.ref r1), some (.ref r2), some (.int v3), some (.int v4), none, none] [] Q)) : WM G jX1_findRows [.ref 71, .ref r1, .ref r2, .int v3, .int v4] h Q :=
  WM.body (ls := [some (.ref 71), some (.ref r1), some (.ref r2), some (.int v3), some (.int v4), none, none]) rfl (by decide +kernel) rfl (Nat.le_of_ble_eq_true rfl) rfl ((bX1_findRows_0 hi k1 k2 K))
theorem dX1_isStill_0 : decode cX1_isStill 0 = .ok (.aload_n 0, 1) := by decide +kernel
theorem dX1_isStill_1 : decode cX1_isStill 1 = .ok (.getfield 18, 3) := by decide +kernel
theorem dX1_isStill_4 : decode cX1_isStill 4 = .ok (.iconst 2, 1) := by decide +kernel
theorem dX1_isStill_5 : decode cX1_isStill 5 = .ok (.iload_n 1, 1) := by decide +kernel
theorem dX1_isStill_6 : decode cX1_isStill 6 = .ok (.imul, 1) := by decide +kernel
theorem dX1_isStill_7 : decode cX1_isStill 7 = .ok (.iaload, 1) := by decide +kernel
theorem dX1_isStill_8 : decode cX1_isStill 8 = .ok (.ifCond .ne 20, 3) := by decide +kernel
theorem dX1_isStill_11 : decode cX1_isStill 11 = .ok (.aload_n 0, 1) := by decide +kernel
theorem dX1_isStill_12 : decode cX1_isStill 12 = .ok (.getfield 18, 3) := by decide +kernel
theorem dX1_isStill_15 : decode cX1_isStill 15 = .ok (.iconst 2, 1) := by decide +kernel
theorem dX1_isStill_16 : decode cX1_isStill 16 = .ok (.iload_n 1, 1) := by decide +kernel
theorem dX1_isStill_17 : decode cX1_isStill 17 = .ok (.imul, 1) := by decide +kernel
theorem dX1_isStill_18 : decode cX1_isStill 18 = .ok (.iconst 1, 1) := by decide +kernel
theorem dX1_isStill_19 : decode cX1_isStill 19 = .ok (.iadd, 1) := by decide +kernel
theorem dX1_isStill_20 : decode cX1_isStill 20 = .ok (.iaload, 1) := by decide +kernel
theorem dX1_isStill_21 : decode cX1_isStill 21 = .ok (.ifCond .ne 7, 3) := by decide +kernel
theorem dX1_isStill_24 : decode cX1_isStill 24 = .ok (.iconst 1, 1) := by decide +kernel
theorem dX1_isStill_25 : decode cX1_isStill 25 = .ok (.goto 4, 3) := by decide +kernel
theorem dX1_isStill_28 : decode cX1_isStill 28 = .ok (.iconst 0, 1) := by decide +kernel
theorem dX1_isStill_29 : decode cX1_isStill 29 = .ok (.ireturn, 1) := by decide +kernel
theorem bX1_isStill_0 {G : GX} {h : mH} {Q : mO → mH → Prop} {v1 : Int32} (hi : Iv h) (K : vp_in (2 * v1) 12 ∧ ((¬ (gI h 74 (Int32.toNatClampNeg (2 * v1))) = 0 → Q (.inl (some (.int 0))) h) ∧ ((gI h 74 (Int32.toNatClampNeg (2 * v1))) = 0 → (vp_in ((2 * v1) + 1) 12 ∧ ((¬ (gI h 74 (Int32.toNatClampNeg ((2 * v1) + 1))) = 0 → Q (.inl (some (.int 0))) h) ∧ ((gI h 74 (Int32.toNatClampNeg ((2 * v1) + 1))) = 0 → Q (.inl (some (.int 1))) h)))))) : Vw G jX1_isStill 0 [some (.ref 71), some (.int v1)] [] h Q :=
  s_aload_n dX1_isStill_0 rfl (s_getR (v := .ref 74) dX1_isStill_1 flX1_18 rfl (hi.sh rfl rfl) (hi.rf (o := 71) (k := 10) (d := 3) rfl rfl) (s_iconst 2 dX1_isStill_4 (by decide) (s_iload_n dX1_isStill_5 rfl (s_imul dX1_isStill_6 (s_iaload dX1_isStill_7 (hi.sh rfl rfl) K.1 (s_if_ne 28 dX1_isStill_8 rfl (fun q6 => s_iconst 0 dX1_isStill_28 (by decide) (s_zreturn dX1_isStill_29 rfl (by decide) (K.2.1 q6))) (fun q6 => s_aload_n dX1_isStill_11 rfl (s_getR (v := .ref 74) dX1_isStill_12 flX1_18 rfl (hi.sh rfl rfl) (hi.rf (o := 71) (k := 10) (d := 3) rfl rfl) (s_iconst 2 dX1_isStill_15 (by decide) (s_iload_n dX1_isStill_16 rfl (s_imul dX1_isStill_17 (s_iconst 1 dX1_isStill_18 (by decide) (s_iadd dX1_isStill_19 (s_iaload dX1_isStill_20 (hi.sh rfl rfl) (K.2.2 q6).1 (s_if_ne 28 dX1_isStill_21 rfl (fun q15 => s_iconst 0 dX1_isStill_28 (by decide) (s_zreturn dX1_isStill_29 rfl (by decide) ((K.2.2 q6).2.1 q15))) (fun q15 => s_iconst 1 dX1_isStill_24 (by decide) (s_goto 29 dX1_isStill_25 rfl (s_zreturn dX1_isStill_29 rfl (by decide) ((K.2.2 q6).2.2 q15)))))))))))))))))))
theorem eX1_isStill {G : GX} {h : mH} {Q : mO → mH → Prop} {v1 : Int32} (hi : Iv h) (K : vp_in (2 * v1) 12 ∧ ((¬ (gI h 74 (Int32.toNatClampNeg (2 * v1))) = 0 → Q (.inl (some (.int 0))) h) ∧ ((gI h 74 (Int32.toNatClampNeg (2 * v1))) = 0 → (vp_in ((2 * v1) + 1) 12 ∧ ((¬ (gI h 74 (Int32.toNatClampNeg ((2 * v1) + 1))) = 0 → Q (.inl (some (.int 0))) h) ∧ ((gI h 74 (Int32.toNatClampNeg ((2 * v1) + 1))) = 0 → Q (.inl (some (.int 1))) h)))))) : WM G jX1_isStill [.ref 71, .int v1] h Q :=
  WM.body (ls := [some (.ref 71), some (.int v1)]) rfl (by decide +kernel) rfl (Nat.le_of_ble_eq_true rfl) rfl ((bX1_isStill_0 hi  K))
theorem dX1_isCartsWay_0 : decode cX1_isCartsWay 0 = .ok (.aload_n 0, 1) := by decide +kernel
theorem dX1_isCartsWay_1 : decode cX1_isCartsWay 1 = .ok (.iload_n 1, 1) := by decide +kernel
theorem dX1_isCartsWay_2 : decode cX1_isCartsWay 2 = .ok (.invokevirtual 107, 3) := by decide +kernel
theorem dX1_isCartsWay_5 : decode cX1_isCartsWay 5 = .ok (.ifCond .ne 41, 3) := by decide +kernel
theorem dX1_isCartsWay_8 : decode cX1_isCartsWay 8 = .ok (.aload_n 0, 1) := by decide +kernel
theorem dX1_isCartsWay_9 : decode cX1_isCartsWay 9 = .ok (.getfield 18, 3) := by decide +kernel
theorem dX1_isCartsWay_12 : decode cX1_isCartsWay 12 = .ok (.iconst 2, 1) := by decide +kernel
theorem dX1_isCartsWay_13 : decode cX1_isCartsWay 13 = .ok (.iload_n 1, 1) := by decide +kernel
theorem dX1_isCartsWay_14 : decode cX1_isCartsWay 14 = .ok (.imul, 1) := by decide +kernel
theorem dX1_isCartsWay_15 : decode cX1_isCartsWay 15 = .ok (.iaload, 1) := by decide +kernel
theorem dX1_isCartsWay_16 : decode cX1_isCartsWay 16 = .ok (.invokestatic 72, 3) := by decide +kernel
theorem dX1_isCartsWay_19 : decode cX1_isCartsWay 19 = .ok (.bipush 20, 2) := by decide +kernel
theorem dX1_isCartsWay_21 : decode cX1_isCartsWay 21 = .ok (.if_icmp .gt 25, 3) := by decide +kernel
theorem dX1_isCartsWay_24 : decode cX1_isCartsWay 24 = .ok (.aload_n 0, 1) := by decide +kernel
theorem dX1_isCartsWay_25 : decode cX1_isCartsWay 25 = .ok (.getfield 18, 3) := by decide +kernel
theorem dX1_isCartsWay_28 : decode cX1_isCartsWay 28 = .ok (.iconst 2, 1) := by decide +kernel
theorem dX1_isCartsWay_29 : decode cX1_isCartsWay 29 = .ok (.iload_n 1, 1) := by decide +kernel
theorem dX1_isCartsWay_30 : decode cX1_isCartsWay 30 = .ok (.imul, 1) := by decide +kernel
theorem dX1_isCartsWay_31 : decode cX1_isCartsWay 31 = .ok (.iconst 1, 1) := by decide +kernel
theorem dX1_isCartsWay_32 : decode cX1_isCartsWay 32 = .ok (.iadd, 1) := by decide +kernel
theorem dX1_isCartsWay_33 : decode cX1_isCartsWay 33 = .ok (.iaload, 1) := by decide +kernel
theorem dX1_isCartsWay_34 : decode cX1_isCartsWay 34 = .ok (.invokestatic 72, 3) := by decide +kernel
theorem dX1_isCartsWay_37 : decode cX1_isCartsWay 37 = .ok (.bipush 20, 2) := by decide +kernel
theorem dX1_isCartsWay_39 : decode cX1_isCartsWay 39 = .ok (.if_icmp .gt 7, 3) := by decide +kernel
theorem dX1_isCartsWay_42 : decode cX1_isCartsWay 42 = .ok (.iconst 1, 1) := by decide +kernel
theorem dX1_isCartsWay_43 : decode cX1_isCartsWay 43 = .ok (.goto 4, 3) := by decide +kernel
theorem dX1_isCartsWay_46 : decode cX1_isCartsWay 46 = .ok (.iconst 0, 1) := by decide +kernel
theorem dX1_isCartsWay_47 : decode cX1_isCartsWay 47 = .ok (.ireturn, 1) := by decide +kernel
theorem bX1_isCartsWay_0 {G : GX} {h : mH} {Q : mO → mH → Prop} {v1 : Int32} (hi : Iv h) (K : WM G jX1_isStill [.ref 71, .int v1] h (Aft G jX1_isCartsWay 2 [some (.ref 71), some (.int v1)] [] Q)) : Vw G jX1_isCartsWay 0 [some (.ref 71), some (.int v1)] [] h Q :=
  s_aload_n dX1_isCartsWay_0 rfl (s_iload_n dX1_isCartsWay_1 rfl (s_callV (As := [.int v1]) dX1_isCartsWay_2 rfl lvX1_107 ⟨Nat.le_of_ble_eq_true rfl, Nat.le_of_ble_eq_true rfl⟩ (hi.sh rfl rfl) ⟨_, _, by decide, rfl⟩ rfl (Nat.le_of_ble_eq_true rfl) (K)))
theorem bX1_isCartsWay_5 {G : GX} {h : mH} {Q : mO → mH → Prop} {v1 : Int32} {vs0 : Int32} (hi : Iv h) (K : (¬ vs0 = 0 → Q (.inl (some (.int 0))) h) ∧ (vs0 = 0 → (vp_in (2 * v1) 12 ∧ ((20 < (fJ9_abs_0f7a4 (gI h 74 (Int32.toNatClampNeg (2 * v1)))) → Q (.inl (some (.int 0))) h) ∧ (¬ 20 < (fJ9_abs_0f7a4 (gI h 74 (Int32.toNatClampNeg (2 * v1)))) → (vp_in ((2 * v1) + 1) 12 ∧ ((20 < (fJ9_abs_0f7a4 (gI h 74 (Int32.toNatClampNeg ((2 * v1) + 1)))) → Q (.inl (some (.int 0))) h) ∧ (¬ 20 < (fJ9_abs_0f7a4 (gI h 74 (Int32.toNatClampNeg ((2 * v1) + 1)))) → Q (.inl (some (.int 1))) h)))))))) : Vw G jX1_isCartsWay 5 [some (.ref 71), some (.int v1)] [.int vs0] h Q :=
  s_if_ne 46 dX1_isCartsWay_5 rfl (fun q0 => s_iconst 0 dX1_isCartsWay_46 (by decide) (s_zreturn dX1_isCartsWay_47 rfl (by decide) (K.1 q0))) (fun q0 => s_aload_n dX1_isCartsWay_8 rfl (s_getR (v := .ref 74) dX1_isCartsWay_9 flX1_18 rfl (hi.sh rfl rfl) (hi.rf (o := 71) (k := 10) (d := 3) rfl rfl) (s_iconst 2 dX1_isCartsWay_12 (by decide) (s_iload_n dX1_isCartsWay_13 rfl (s_imul dX1_isCartsWay_14 (s_iaload dX1_isCartsWay_15 (hi.sh rfl rfl) (K.2 q0).1 (s_callS (As := [.int (gI h 74 (Int32.toNatClampNeg (2 * v1)))]) dX1_isCartsWay_16 rfl lsX1_72 ⟨Nat.le_of_ble_eq_true rfl, Nat.le_of_ble_eq_true rfl⟩ rfl (Nat.le_of_ble_eq_true rfl) (mJ9_abs_0f7a4   (s_bipush 20 dX1_isCartsWay_19 (by decide) (s_icmp_gt 46 dX1_isCartsWay_21 rfl (fun q9 => s_iconst 0 dX1_isCartsWay_46 (by decide) (s_zreturn dX1_isCartsWay_47 rfl (by decide) ((K.2 q0).2.1 q9))) (fun q9 => s_aload_n dX1_isCartsWay_24 rfl (s_getR (v := .ref 74) dX1_isCartsWay_25 flX1_18 rfl (hi.sh rfl rfl) (hi.rf (o := 71) (k := 10) (d := 3) rfl rfl) (s_iconst 2 dX1_isCartsWay_28 (by decide) (s_iload_n dX1_isCartsWay_29 rfl (s_imul dX1_isCartsWay_30 (s_iconst 1 dX1_isCartsWay_31 (by decide) (s_iadd dX1_isCartsWay_32 (s_iaload dX1_isCartsWay_33 (hi.sh rfl rfl) ((K.2 q0).2.2 q9).1 (s_callS (As := [.int (gI h 74 (Int32.toNatClampNeg ((2 * v1) + 1)))]) dX1_isCartsWay_34 rfl lsX1_72 ⟨Nat.le_of_ble_eq_true rfl, Nat.le_of_ble_eq_true rfl⟩ rfl (Nat.le_of_ble_eq_true rfl) (mJ9_abs_0f7a4   (s_bipush 20 dX1_isCartsWay_37 (by decide) (s_icmp_gt 46 dX1_isCartsWay_39 rfl (fun q20 => s_iconst 0 dX1_isCartsWay_46 (by decide) (s_zreturn dX1_isCartsWay_47 rfl (by decide) (((K.2 q0).2.2 q9).2.1 q20))) (fun q20 => s_iconst 1 dX1_isCartsWay_42 (by decide) (s_goto 47 dX1_isCartsWay_43 rfl (s_zreturn dX1_isCartsWay_47 rfl (by decide) (((K.2 q0).2.2 q9).2.2 q20))))))))))))))))))))))))))
theorem eX1_isCartsWay {G : GX} {h : mH} {Q : mO → mH → Prop} {v1 : Int32} (hi : Iv h) (K : WM G jX1_isStill [.ref 71, .int v1] h (Aft G jX1_isCartsWay 2 [some (.ref 71), some (.int v1)] [] Q)) : WM G jX1_isCartsWay [.ref 71, .int v1] h Q :=
  WM.body (ls := [some (.ref 71), some (.int v1)]) rfl (by decide +kernel) rfl (Nat.le_of_ble_eq_true rfl) rfl ((bX1_isCartsWay_0 hi  K))
theorem dX1_modelOf_0 : decode cX1_modelOf 0 = .ok (.iconst (-1), 1) := by decide +kernel
theorem dX1_modelOf_1 : decode cX1_modelOf 1 = .ok (.istore_n 3, 1) := by decide +kernel
theorem dX1_modelOf_2 : decode cX1_modelOf 2 = .ok (.iconst 0, 1) := by decide +kernel
theorem dX1_modelOf_3 : decode cX1_modelOf 3 = .ok (.istore 4, 2) := by decide +kernel
theorem dX1_modelOf_5 : decode cX1_modelOf 5 = .ok (.iload 4, 2) := by decide +kernel
theorem dX1_modelOf_7 : decode cX1_modelOf 7 = .ok (.aload_n 2, 1) := by decide +kernel
theorem dX1_modelOf_8 : decode cX1_modelOf 8 = .ok (.getfield 42, 3) := by decide +kernel
theorem dX1_modelOf_11 : decode cX1_modelOf 11 = .ok (.if_icmp .ge 90, 3) := by decide +kernel
theorem dX1_modelOf_14 : decode cX1_modelOf 14 = .ok (.aload_n 2, 1) := by decide +kernel
theorem dX1_modelOf_15 : decode cX1_modelOf 15 = .ok (.getfield 60, 3) := by decide +kernel
theorem dX1_modelOf_18 : decode cX1_modelOf 18 = .ok (.iconst 3, 1) := by decide +kernel
theorem dX1_modelOf_19 : decode cX1_modelOf 19 = .ok (.iload 4, 2) := by decide +kernel
theorem dX1_modelOf_21 : decode cX1_modelOf 21 = .ok (.imul, 1) := by decide +kernel
theorem dX1_modelOf_22 : decode cX1_modelOf 22 = .ok (.iaload, 1) := by decide +kernel
theorem dX1_modelOf_23 : decode cX1_modelOf 23 = .ok (.iload_n 1, 1) := by decide +kernel
theorem dX1_modelOf_24 : decode cX1_modelOf 24 = .ok (.if_icmp .ge 14, 3) := by decide +kernel
theorem dX1_modelOf_27 : decode cX1_modelOf 27 = .ok (.aload_n 0, 1) := by decide +kernel
theorem dX1_modelOf_28 : decode cX1_modelOf 28 = .ok (.iload 4, 2) := by decide +kernel
theorem dX1_modelOf_30 : decode cX1_modelOf 30 = .ok (.invokevirtual 107, 3) := by decide +kernel
theorem dX1_modelOf_33 : decode cX1_modelOf 33 = .ok (.ifCond .ne 62, 3) := by decide +kernel
theorem dX1_modelOf_36 : decode cX1_modelOf 36 = .ok (.iconst (-1), 1) := by decide +kernel
theorem dX1_modelOf_37 : decode cX1_modelOf 37 = .ok (.ireturn, 1) := by decide +kernel
theorem dX1_modelOf_38 : decode cX1_modelOf 38 = .ok (.iload_n 3, 1) := by decide +kernel
theorem dX1_modelOf_39 : decode cX1_modelOf 39 = .ok (.iconst (-1), 1) := by decide +kernel
theorem dX1_modelOf_40 : decode cX1_modelOf 40 = .ok (.if_icmp .ne 9, 3) := by decide +kernel
theorem dX1_modelOf_43 : decode cX1_modelOf 43 = .ok (.iload 4, 2) := by decide +kernel
theorem dX1_modelOf_45 : decode cX1_modelOf 45 = .ok (.istore_n 3, 1) := by decide +kernel
theorem dX1_modelOf_46 : decode cX1_modelOf 46 = .ok (.goto 49, 3) := by decide +kernel
theorem dX1_modelOf_49 : decode cX1_modelOf 49 = .ok (.aload_n 0, 1) := by decide +kernel
theorem dX1_modelOf_50 : decode cX1_modelOf 50 = .ok (.getfield 18, 3) := by decide +kernel
theorem dX1_modelOf_53 : decode cX1_modelOf 53 = .ok (.iconst 2, 1) := by decide +kernel
theorem dX1_modelOf_54 : decode cX1_modelOf 54 = .ok (.iload 4, 2) := by decide +kernel
theorem dX1_modelOf_56 : decode cX1_modelOf 56 = .ok (.imul, 1) := by decide +kernel
theorem dX1_modelOf_57 : decode cX1_modelOf 57 = .ok (.iaload, 1) := by decide +kernel
theorem dX1_modelOf_58 : decode cX1_modelOf 58 = .ok (.aload_n 0, 1) := by decide +kernel
theorem dX1_modelOf_59 : decode cX1_modelOf 59 = .ok (.getfield 18, 3) := by decide +kernel
theorem dX1_modelOf_62 : decode cX1_modelOf 62 = .ok (.iconst 2, 1) := by decide +kernel
theorem dX1_modelOf_63 : decode cX1_modelOf 63 = .ok (.iload_n 3, 1) := by decide +kernel
theorem dX1_modelOf_64 : decode cX1_modelOf 64 = .ok (.imul, 1) := by decide +kernel
theorem dX1_modelOf_65 : decode cX1_modelOf 65 = .ok (.iaload, 1) := by decide +kernel
theorem dX1_modelOf_66 : decode cX1_modelOf 66 = .ok (.if_icmp .ne 27, 3) := by decide +kernel
theorem dX1_modelOf_69 : decode cX1_modelOf 69 = .ok (.aload_n 0, 1) := by decide +kernel
theorem dX1_modelOf_70 : decode cX1_modelOf 70 = .ok (.getfield 18, 3) := by decide +kernel
theorem dX1_modelOf_73 : decode cX1_modelOf 73 = .ok (.iconst 2, 1) := by decide +kernel
theorem dX1_modelOf_74 : decode cX1_modelOf 74 = .ok (.iload 4, 2) := by decide +kernel
theorem dX1_modelOf_76 : decode cX1_modelOf 76 = .ok (.imul, 1) := by decide +kernel
theorem dX1_modelOf_77 : decode cX1_modelOf 77 = .ok (.iconst 1, 1) := by decide +kernel
theorem dX1_modelOf_78 : decode cX1_modelOf 78 = .ok (.iadd, 1) := by decide +kernel
theorem dX1_modelOf_79 : decode cX1_modelOf 79 = .ok (.iaload, 1) := by decide +kernel
theorem dX1_modelOf_80 : decode cX1_modelOf 80 = .ok (.aload_n 0, 1) := by decide +kernel
theorem dX1_modelOf_81 : decode cX1_modelOf 81 = .ok (.getfield 18, 3) := by decide +kernel
theorem dX1_modelOf_84 : decode cX1_modelOf 84 = .ok (.iconst 2, 1) := by decide +kernel
theorem dX1_modelOf_85 : decode cX1_modelOf 85 = .ok (.iload_n 3, 1) := by decide +kernel
theorem dX1_modelOf_86 : decode cX1_modelOf 86 = .ok (.imul, 1) := by decide +kernel
theorem dX1_modelOf_87 : decode cX1_modelOf 87 = .ok (.iconst 1, 1) := by decide +kernel
theorem dX1_modelOf_88 : decode cX1_modelOf 88 = .ok (.iadd, 1) := by decide +kernel
theorem dX1_modelOf_89 : decode cX1_modelOf 89 = .ok (.iaload, 1) := by decide +kernel
theorem dX1_modelOf_90 : decode cX1_modelOf 90 = .ok (.if_icmp .eq 5, 3) := by decide +kernel
theorem dX1_modelOf_93 : decode cX1_modelOf 93 = .ok (.iconst (-1), 1) := by decide +kernel
theorem dX1_modelOf_94 : decode cX1_modelOf 94 = .ok (.ireturn, 1) := by decide +kernel
theorem dX1_modelOf_95 : decode cX1_modelOf 95 = .ok (.iinc 4 1, 3) := by decide +kernel
theorem dX1_modelOf_98 : decode cX1_modelOf 98 = .ok (.goto (-93), 3) := by decide +kernel
theorem dX1_modelOf_101 : decode cX1_modelOf 101 = .ok (.iload_n 3, 1) := by decide +kernel
theorem dX1_modelOf_102 : decode cX1_modelOf 102 = .ok (.iconst (-1), 1) := by decide +kernel
theorem dX1_modelOf_103 : decode cX1_modelOf 103 = .ok (.if_icmp .eq 15, 3) := by decide +kernel
theorem dX1_modelOf_106 : decode cX1_modelOf 106 = .ok (.aload_n 0, 1) := by decide +kernel
theorem dX1_modelOf_107 : decode cX1_modelOf 107 = .ok (.iload_n 3, 1) := by decide +kernel
theorem dX1_modelOf_108 : decode cX1_modelOf 108 = .ok (.invokevirtual 111, 3) := by decide +kernel
theorem dX1_modelOf_111 : decode cX1_modelOf 111 = .ok (.ifCond .eq 7, 3) := by decide +kernel
theorem dX1_modelOf_114 : decode cX1_modelOf 114 = .ok (.iload_n 3, 1) := by decide +kernel
theorem dX1_modelOf_115 : decode cX1_modelOf 115 = .ok (.goto 4, 3) := by decide +kernel
theorem dX1_modelOf_118 : decode cX1_modelOf 118 = .ok (.iconst (-1), 1) := by decide +kernel
theorem dX1_modelOf_119 : decode cX1_modelOf 119 = .ok (.ireturn, 1) := by decide +kernel
theorem bX1_modelOf_0 {G : GX} {h : mH} {Q : mO → mH → Prop} {v1 : Int32} {r2 : Nat} (hi : Iv h) (k2 : kd r2 = (3, 7)) (K : Vw G jX1_modelOf 5 [some (.ref 71), some (.int v1), some (.ref r2), some (.int (-1)), some (.int 0)] [] h Q) : Vw G jX1_modelOf 0 [some (.ref 71), some (.int v1), some (.ref r2), none, none] [] h Q :=
  s_iconst (-1) dX1_modelOf_0 (by decide) (s_istore_n dX1_modelOf_1 (Nat.le_of_ble_eq_true rfl) rfl (s_iconst 0 dX1_modelOf_2 (by decide) (s_istore dX1_modelOf_3 (Nat.le_of_ble_eq_true rfl) rfl (K))))
theorem bX1_modelOf_5 {G : GX} {h : mH} {Q : mO → mH → Prop} {v1 : Int32} {r2 : Nat} {v3 : Int32} {v4 : Int32} (hi : Iv h) (k2 : kd r2 = (3, 7)) (K : ((gI h r2 3) ≤ v4 → ((v3 = (-1) → Q (.inl (some (.int (-1)))) h) ∧ (¬ v3 = (-1) → WM G jX1_isCartsWay [.ref 71, .int v3] h (Aft G jX1_modelOf 108 [none, none, none, some (.int v3), none] [] Q)))) ∧ (¬ (gI h r2 3) ≤ v4 → (vp_in (3 * v4) 18 ∧ ((v1 ≤ (gI h (r2 + 3) (Int32.toNatClampNeg (3 * v4))) → ((¬ v3 = (-1) → (vp_in (2 * v4) 12 ∧ (vp_in (2 * v3) 12 ∧ ((¬ (gI h 74 (Int32.toNatClampNeg (2 * v4))) = (gI h 74 (Int32.toNatClampNeg (2 * v3))) → Q (.inl (some (.int (-1)))) h) ∧ ((gI h 74 (Int32.toNatClampNeg (2 * v4))) = (gI h 74 (Int32.toNatClampNeg (2 * v3))) → (vp_in ((2 * v4) + 1) 12 ∧ (vp_in ((2 * v3) + 1) 12 ∧ (((gI h 74 (Int32.toNatClampNeg ((2 * v4) + 1))) = (gI h 74 (Int32.toNatClampNeg ((2 * v3) + 1))) → Vw G jX1_modelOf 95 [some (.ref 71), some (.int v1), some (.ref r2), some (.int v3), some (.int v4)] [] h Q) ∧ (¬ (gI h 74 (Int32.toNatClampNeg ((2 * v4) + 1))) = (gI h 74 (Int32.toNatClampNeg ((2 * v3) + 1))) → Q (.inl (some (.int (-1)))) h))))))))) ∧ (v3 = (-1) → Vw G jX1_modelOf 95 [some (.ref 71), some (.int v1), some (.ref r2), some (.int v4), some (.int v4)] [] h Q))) ∧ (¬ v1 ≤ (gI h (r2 + 3) (Int32.toNatClampNeg (3 * v4))) → WM G jX1_isStill [.ref 71, .int v4] h (Aft G jX1_modelOf 30 [some (.ref 71), some (.int v1), some (.ref r2), some (.int v3), some (.int v4)] [] Q)))))) : Vw G jX1_modelOf 5 [some (.ref 71), some (.int v1), some (.ref r2), some (.int v3), some (.int v4)] [] h Q :=
  s_iload dX1_modelOf_5 rfl (s_aload_n dX1_modelOf_7 rfl (s_getI dX1_modelOf_8 flX1_42 (Or.inl rfl) (hi.sh k2 rfl) (s_icmp_ge 101 dX1_modelOf_11 rfl (fun q3 => s_iload_n dX1_modelOf_101 rfl (s_iconst (-1) dX1_modelOf_102 (by decide) (s_icmp_eq 118 dX1_modelOf_103 rfl (fun q6 => s_iconst (-1) dX1_modelOf_118 (by decide) (s_ireturn dX1_modelOf_119 rfl ((K.1 q3).1 q6))) (fun q6 => s_aload_n dX1_modelOf_106 rfl (s_iload_n dX1_modelOf_107 rfl (Vw.mask [false, false, false, true, false] (s_callV (As := [.int v3]) dX1_modelOf_108 rfl lvX1_111 ⟨Nat.le_of_ble_eq_true rfl, Nat.le_of_ble_eq_true rfl⟩ (hi.sh rfl rfl) ⟨_, _, by decide, rfl⟩ rfl (Nat.le_of_ble_eq_true rfl) (((K.1 q3).2 q6))))))))) (fun q3 => s_aload_n dX1_modelOf_14 rfl (s_getR (v := .ref (r2 + 3)) dX1_modelOf_15 flX1_60 rfl (hi.sh k2 rfl) (hi.rf (o := r2) (k := 4) (d := 3) k2 rfl) (s_iconst 3 dX1_modelOf_18 (by decide) (s_iload dX1_modelOf_19 rfl (s_imul dX1_modelOf_21 (s_iaload dX1_modelOf_22 (hi.sh (kd3_4 k2) rfl) (K.2 q3).1 (s_iload_n dX1_modelOf_23 rfl (s_icmp_ge 38 dX1_modelOf_24 rfl (fun q11 => s_iload_n dX1_modelOf_38 rfl (s_iconst (-1) dX1_modelOf_39 (by decide) (s_icmp_ne 49 dX1_modelOf_40 rfl (fun q14 => s_aload_n dX1_modelOf_49 rfl (s_getR (v := .ref 74) dX1_modelOf_50 flX1_18 rfl (hi.sh rfl rfl) (hi.rf (o := 71) (k := 10) (d := 3) rfl rfl) (s_iconst 2 dX1_modelOf_53 (by decide) (s_iload dX1_modelOf_54 rfl (s_imul dX1_modelOf_56 (s_iaload dX1_modelOf_57 (hi.sh rfl rfl) (((K.2 q3).2.1 q11).1 q14).1 (s_aload_n dX1_modelOf_58 rfl (s_getR (v := .ref 74) dX1_modelOf_59 flX1_18 rfl (hi.sh rfl rfl) (hi.rf (o := 71) (k := 10) (d := 3) rfl rfl) (s_iconst 2 dX1_modelOf_62 (by decide) (s_iload_n dX1_modelOf_63 rfl (s_imul dX1_modelOf_64 (s_iaload dX1_modelOf_65 (hi.sh rfl rfl) (((K.2 q3).2.1 q11).1 q14).2.1 (s_icmp_ne 93 dX1_modelOf_66 rfl (fun q27 => s_iconst (-1) dX1_modelOf_93 (by decide) (s_ireturn dX1_modelOf_94 rfl ((((K.2 q3).2.1 q11).1 q14).2.2.1 q27))) (fun q27 => s_aload_n dX1_modelOf_69 rfl (s_getR (v := .ref 74) dX1_modelOf_70 flX1_18 rfl (hi.sh rfl rfl) (hi.rf (o := 71) (k := 10) (d := 3) rfl rfl) (s_iconst 2 dX1_modelOf_73 (by decide) (s_iload dX1_modelOf_74 rfl (s_imul dX1_modelOf_76 (s_iconst 1 dX1_modelOf_77 (by decide) (s_iadd dX1_modelOf_78 (s_iaload dX1_modelOf_79 (hi.sh rfl rfl) ((((K.2 q3).2.1 q11).1 q14).2.2.2 q27).1 (s_aload_n dX1_modelOf_80 rfl (s_getR (v := .ref 74) dX1_modelOf_81 flX1_18 rfl (hi.sh rfl rfl) (hi.rf (o := 71) (k := 10) (d := 3) rfl rfl) (s_iconst 2 dX1_modelOf_84 (by decide) (s_iload_n dX1_modelOf_85 rfl (s_imul dX1_modelOf_86 (s_iconst 1 dX1_modelOf_87 (by decide) (s_iadd dX1_modelOf_88 (s_iaload dX1_modelOf_89 (hi.sh rfl rfl) ((((K.2 q3).2.1 q11).1 q14).2.2.2 q27).2.1 (s_icmp_eq 95 dX1_modelOf_90 rfl (fun q44 => (((((K.2 q3).2.1 q11).1 q14).2.2.2 q27).2.2.1 q44)) (fun q44 => s_iconst (-1) dX1_modelOf_93 (by decide) (s_ireturn dX1_modelOf_94 rfl (((((K.2 q3).2.1 q11).1 q14).2.2.2 q27).2.2.2 q44))))))))))))))))))))))))))))))))) (fun q14 => s_iload dX1_modelOf_43 rfl (s_istore_n dX1_modelOf_45 (Nat.le_of_ble_eq_true rfl) rfl (s_goto 95 dX1_modelOf_46 rfl ((((K.2 q3).2.1 q11).2 q14)))))))) (fun q11 => s_aload_n dX1_modelOf_27 rfl (s_iload dX1_modelOf_28 rfl (s_callV (As := [.int v4]) dX1_modelOf_30 rfl lvX1_107 ⟨Nat.le_of_ble_eq_true rfl, Nat.le_of_ble_eq_true rfl⟩ (hi.sh rfl rfl) ⟨_, _, by decide, rfl⟩ rfl (Nat.le_of_ble_eq_true rfl) (((K.2 q3).2.2 q11))))))))))))))))
theorem bX1_modelOf_33 {G : GX} {h : mH} {Q : mO → mH → Prop} {v1 : Int32} {r2 : Nat} {v3 : Int32} {v4 : Int32} {vs0 : Int32} (hi : Iv h) (k2 : kd r2 = (3, 7)) (K : (¬ vs0 = 0 → Vw G jX1_modelOf 95 [some (.ref 71), some (.int v1), some (.ref r2), some (.int v3), some (.int v4)] [] h Q) ∧ (vs0 = 0 → Q (.inl (some (.int (-1)))) h)) : Vw G jX1_modelOf 33 [some (.ref 71), some (.int v1), some (.ref r2), some (.int v3), some (.int v4)] [.int vs0] h Q :=
  s_if_ne 95 dX1_modelOf_33 rfl (fun q0 => (K.1 q0)) (fun q0 => s_iconst (-1) dX1_modelOf_36 (by decide) (s_ireturn dX1_modelOf_37 rfl (K.2 q0)))
theorem bX1_modelOf_95 {G : GX} {h : mH} {Q : mO → mH → Prop} {v1 : Int32} {r2 : Nat} {v3 : Int32} {v4 : Int32} (hi : Iv h) (k2 : kd r2 = (3, 7)) (K : Vw G jX1_modelOf 5 [some (.ref 71), some (.int v1), some (.ref r2), some (.int v3), some (.int (v4 + 1))] [] h Q) : Vw G jX1_modelOf 95 [some (.ref 71), some (.int v1), some (.ref r2), some (.int v3), some (.int v4)] [] h Q :=
  s_iinc 1 dX1_modelOf_95 rfl (by decide) (Nat.le_of_ble_eq_true rfl) rfl (s_goto 5 dX1_modelOf_98 rfl (K))
theorem bX1_modelOf_111 {G : GX} {h : mH} {Q : mO → mH → Prop} {v3 : Int32} {vs0 : Int32} (hi : Iv h) (K : (vs0 = 0 → Q (.inl (some (.int (-1)))) h) ∧ (¬ vs0 = 0 → Q (.inl (some (.int v3))) h)) : Vw G jX1_modelOf 111 [none, none, none, some (.int v3), none] [.int vs0] h Q :=
  s_if_eq 118 dX1_modelOf_111 rfl (fun q0 => s_iconst (-1) dX1_modelOf_118 (by decide) (s_ireturn dX1_modelOf_119 rfl (K.1 q0))) (fun q0 => s_iload_n dX1_modelOf_114 rfl (s_goto 119 dX1_modelOf_115 rfl (s_ireturn dX1_modelOf_119 rfl (K.2 q0))))
theorem eX1_modelOf {G : GX} {h : mH} {Q : mO → mH → Prop} {v1 : Int32} {r2 : Nat} (hi : Iv h) (k2 : kd r2 = (3, 7)) (K : Vw G jX1_modelOf 5 [some (.ref 71), some (.int v1), some (.ref r2), some (.int (-1)), some (.int 0)] [] h Q) : WM G jX1_modelOf [.ref 71, .int v1, .ref r2] h Q :=
  WM.body (ls := [some (.ref 71), some (.int v1), some (.ref r2), none, none]) rfl (by decide +kernel) rfl (Nat.le_of_ble_eq_true rfl) rfl ((bX1_modelOf_0 hi k2 K))
theorem dX1_tryCart_0 : decode cX1_tryCart 0 = .ok (.aload_n 0, 1) := by decide +kernel
theorem dX1_tryCart_1 : decode cX1_tryCart 1 = .ok (.iload_n 1, 1) := by decide +kernel
theorem dX1_tryCart_2 : decode cX1_tryCart 2 = .ok (.aload_n 2, 1) := by decide +kernel
theorem dX1_tryCart_3 : decode cX1_tryCart 3 = .ok (.invokevirtual 103, 3) := by decide +kernel
theorem dX1_tryCart_6 : decode cX1_tryCart 6 = .ok (.istore_n 3, 1) := by decide +kernel
theorem dX1_tryCart_7 : decode cX1_tryCart 7 = .ok (.iload_n 3, 1) := by decide +kernel
theorem dX1_tryCart_8 : decode cX1_tryCart 8 = .ok (.iconst (-1), 1) := by decide +kernel
theorem dX1_tryCart_9 : decode cX1_tryCart 9 = .ok (.if_icmp .ne 4, 3) := by decide +kernel
theorem dX1_tryCart_12 : decode cX1_tryCart 12 = .ok (.return_, 1) := by decide +kernel
theorem dX1_tryCart_13 : decode cX1_tryCart 13 = .ok (.aload_n 0, 1) := by decide +kernel
theorem dX1_tryCart_14 : decode cX1_tryCart 14 = .ok (.getfield 87, 3) := by decide +kernel
theorem dX1_tryCart_17 : decode cX1_tryCart 17 = .ok (.ifCond .ne 34, 3) := by decide +kernel
theorem dX1_tryCart_20 : decode cX1_tryCart 20 = .ok (.aload_n 0, 1) := by decide +kernel
theorem dX1_tryCart_21 : decode cX1_tryCart 21 = .ok (.iload_n 1, 1) := by decide +kernel
theorem dX1_tryCart_22 : decode cX1_tryCart 22 = .ok (.putfield 90, 3) := by decide +kernel
theorem dX1_tryCart_25 : decode cX1_tryCart 25 = .ok (.aload_n 0, 1) := by decide +kernel
theorem dX1_tryCart_26 : decode cX1_tryCart 26 = .ok (.aload_n 0, 1) := by decide +kernel
theorem dX1_tryCart_27 : decode cX1_tryCart 27 = .ok (.getfield 18, 3) := by decide +kernel
theorem dX1_tryCart_30 : decode cX1_tryCart 30 = .ok (.iconst 2, 1) := by decide +kernel
theorem dX1_tryCart_31 : decode cX1_tryCart 31 = .ok (.iload_n 3, 1) := by decide +kernel
theorem dX1_tryCart_32 : decode cX1_tryCart 32 = .ok (.imul, 1) := by decide +kernel
theorem dX1_tryCart_33 : decode cX1_tryCart 33 = .ok (.iaload, 1) := by decide +kernel
theorem dX1_tryCart_34 : decode cX1_tryCart 34 = .ok (.putfield 93, 3) := by decide +kernel
theorem dX1_tryCart_37 : decode cX1_tryCart 37 = .ok (.aload_n 0, 1) := by decide +kernel
theorem dX1_tryCart_38 : decode cX1_tryCart 38 = .ok (.aload_n 0, 1) := by decide +kernel
theorem dX1_tryCart_39 : decode cX1_tryCart 39 = .ok (.getfield 18, 3) := by decide +kernel
theorem dX1_tryCart_42 : decode cX1_tryCart 42 = .ok (.iconst 2, 1) := by decide +kernel
theorem dX1_tryCart_43 : decode cX1_tryCart 43 = .ok (.iload_n 3, 1) := by decide +kernel
theorem dX1_tryCart_44 : decode cX1_tryCart 44 = .ok (.imul, 1) := by decide +kernel
theorem dX1_tryCart_45 : decode cX1_tryCart 45 = .ok (.iconst 1, 1) := by decide +kernel
theorem dX1_tryCart_46 : decode cX1_tryCart 46 = .ok (.iadd, 1) := by decide +kernel
theorem dX1_tryCart_47 : decode cX1_tryCart 47 = .ok (.iaload, 1) := by decide +kernel
theorem dX1_tryCart_48 : decode cX1_tryCart 48 = .ok (.putfield 96, 3) := by decide +kernel
theorem dX1_tryCart_51 : decode cX1_tryCart 51 = .ok (.aload_n 0, 1) := by decide +kernel
theorem dX1_tryCart_52 : decode cX1_tryCart 52 = .ok (.dup, 1) := by decide +kernel
theorem dX1_tryCart_53 : decode cX1_tryCart 53 = .ok (.getfield 87, 3) := by decide +kernel
theorem dX1_tryCart_56 : decode cX1_tryCart 56 = .ok (.iconst 1, 1) := by decide +kernel
theorem dX1_tryCart_57 : decode cX1_tryCart 57 = .ok (.iadd, 1) := by decide +kernel
theorem dX1_tryCart_58 : decode cX1_tryCart 58 = .ok (.putfield 87, 3) := by decide +kernel
theorem dX1_tryCart_61 : decode cX1_tryCart 61 = .ok (.return_, 1) := by decide +kernel
theorem bX1_tryCart_0 {G : GX} {h : mH} {Q : mO → mH → Prop} {v1 : Int32} {r2 : Nat} (hi : Iv h) (k2 : kd r2 = (3, 7)) (K : WM G jX1_modelOf [.ref 71, .int v1, .ref r2] h (Aft G jX1_tryCart 3 [some (.ref 71), some (.int v1), none, none] [] Q)) : Vw G jX1_tryCart 0 [some (.ref 71), some (.int v1), some (.ref r2), none] [] h Q :=
  s_aload_n dX1_tryCart_0 rfl (s_iload_n dX1_tryCart_1 rfl (s_aload_n dX1_tryCart_2 rfl (Vw.mask [true, true, false, false] (s_callV (As := [.int v1, .ref r2]) dX1_tryCart_3 rfl lvX1_103 ⟨Nat.le_of_ble_eq_true rfl, Nat.le_of_ble_eq_true rfl⟩ (hi.sh rfl rfl) ⟨_, _, by decide, rfl⟩ rfl (Nat.le_of_ble_eq_true rfl) (K)))))
theorem bX1_tryCart_6 {G : GX} {h : mH} {Q : mO → mH → Prop} {v1 : Int32} {vs0 : Int32} (hi : Iv h) (K : (¬ vs0 = (-1) → ((¬ (gI h 71 4) = 0 → Vw G jX1_tryCart 51 [some (.ref 71), none, none, none] [] h Q) ∧ ((gI h 71 4) = 0 → (vp_in (2 * vs0) 12 ∧ (vp_in ((2 * vs0) + 1) 12 ∧ Vw G jX1_tryCart 51 [some (.ref 71), none, none, none] [] (pI (pI (pI h 71 5 v1) 71 6 (gI (pI h 71 5 v1) 74 (Int32.toNatClampNeg (2 * vs0)))) 71 7 (gI (pI (pI h 71 5 v1) 71 6 (gI (pI h 71 5 v1) 74 (Int32.toNatClampNeg (2 * vs0)))) 74 (Int32.toNatClampNeg ((2 * vs0) + 1)))) Q))))) ∧ (vs0 = (-1) → Q (.inl none) h)) : Vw G jX1_tryCart 6 [some (.ref 71), some (.int v1), none, none] [.int vs0] h Q :=
  s_istore_n dX1_tryCart_6 (Nat.le_of_ble_eq_true rfl) rfl (s_iload_n dX1_tryCart_7 rfl (s_iconst (-1) dX1_tryCart_8 (by decide) (s_icmp_ne 13 dX1_tryCart_9 rfl (fun q3 => s_aload_n dX1_tryCart_13 rfl (s_getI dX1_tryCart_14 flX1_87 (Or.inl rfl) (hi.sh rfl rfl) (s_if_ne 51 dX1_tryCart_17 rfl (fun q6 => Vw.mask [true, false, false, false] (((K.1 q3).1 q6))) (fun q6 => s_aload_n dX1_tryCart_20 rfl (s_iload_n dX1_tryCart_21 rfl (s_putI dX1_tryCart_22 flX1_90 ff1_5 rfl (hi.sh rfl rfl) (s_aload_n dX1_tryCart_25 rfl (s_aload_n dX1_tryCart_26 rfl (s_getR (v := .ref 74) dX1_tryCart_27 flX1_18 rfl (hi.sh rfl rfl) (hi.rf (o := 71) (k := 10) (d := 3) rfl rfl) (s_iconst 2 dX1_tryCart_30 (by decide) (s_iload_n dX1_tryCart_31 rfl (s_imul dX1_tryCart_32 (s_iaload dX1_tryCart_33 (hi.sh rfl rfl) ((K.1 q3).2 q6).1 (s_putI dX1_tryCart_34 flX1_93 ff1_6 rfl (hi.sh rfl rfl) (s_aload_n dX1_tryCart_37 rfl (s_aload_n dX1_tryCart_38 rfl (s_getR (v := .ref 74) dX1_tryCart_39 flX1_18 rfl (hi.sh rfl rfl) (hi.rf (o := 71) (k := 10) (d := 3) rfl rfl) (s_iconst 2 dX1_tryCart_42 (by decide) (s_iload_n dX1_tryCart_43 rfl (s_imul dX1_tryCart_44 (s_iconst 1 dX1_tryCart_45 (by decide) (s_iadd dX1_tryCart_46 (s_iaload dX1_tryCart_47 (hi.sh rfl rfl) ((K.1 q3).2 q6).2.1 (s_putI dX1_tryCart_48 flX1_96 ff1_7 rfl (hi.sh rfl rfl) (Vw.mask [true, false, false, false] (((K.1 q3).2 q6).2.2)))))))))))))))))))))))))) (fun q3 => s_return dX1_tryCart_12 rfl (K.2 q3)))))
theorem bX1_tryCart_51 {G : GX} {h : mH} {Q : mO → mH → Prop} (hi : Iv h) (K : Q (.inl none) (pI h 71 4 ((gI h 71 4) + 1))) : Vw G jX1_tryCart 51 [some (.ref 71), none, none, none] [] h Q :=
  s_aload_n dX1_tryCart_51 rfl (s_dupr dX1_tryCart_52 (s_getI dX1_tryCart_53 flX1_87 (Or.inl rfl) (hi.sh rfl rfl) (s_iconst 1 dX1_tryCart_56 (by decide) (s_iadd dX1_tryCart_57 (s_putI dX1_tryCart_58 flX1_87 ff1_4 rfl (hi.sh rfl rfl) (s_return dX1_tryCart_61 rfl K))))))
theorem eX1_tryCart {G : GX} {h : mH} {Q : mO → mH → Prop} {v1 : Int32} {r2 : Nat} (hi : Iv h) (k2 : kd r2 = (3, 7)) (K : WM G jX1_modelOf [.ref 71, .int v1, .ref r2] h (Aft G jX1_tryCart 3 [some (.ref 71), some (.int v1), none, none] [] Q)) : WM G jX1_tryCart [.ref 71, .int v1, .ref r2] h Q :=
  WM.body (ls := [some (.ref 71), some (.int v1), some (.ref r2), none]) rfl (by decide +kernel) rfl (Nat.le_of_ble_eq_true rfl) rfl ((bX1_tryCart_0 hi k2 K))
theorem dX1_findCart_0 : decode cX1_findCart 0 = .ok (.iconst 0, 1) := by decide +kernel
theorem dX1_findCart_1 : decode cX1_findCart 1 = .ok (.istore_n 3, 1) := by decide +kernel
theorem dX1_findCart_2 : decode cX1_findCart 2 = .ok (.iload_n 3, 1) := by decide +kernel
theorem dX1_findCart_3 : decode cX1_findCart 3 = .ok (.aload_n 2, 1) := by decide +kernel
theorem dX1_findCart_4 : decode cX1_findCart 4 = .ok (.getfield 42, 3) := by decide +kernel
theorem dX1_findCart_7 : decode cX1_findCart 7 = .ok (.if_icmp .ge 73, 3) := by decide +kernel
theorem dX1_findCart_10 : decode cX1_findCart 10 = .ok (.aload_n 2, 1) := by decide +kernel
theorem dX1_findCart_11 : decode cX1_findCart 11 = .ok (.getfield 60, 3) := by decide +kernel
theorem dX1_findCart_14 : decode cX1_findCart 14 = .ok (.iconst 3, 1) := by decide +kernel
theorem dX1_findCart_15 : decode cX1_findCart 15 = .ok (.iload_n 3, 1) := by decide +kernel
theorem dX1_findCart_16 : decode cX1_findCart 16 = .ok (.imul, 1) := by decide +kernel
theorem dX1_findCart_17 : decode cX1_findCart 17 = .ok (.iaload, 1) := by decide +kernel
theorem dX1_findCart_18 : decode cX1_findCart 18 = .ok (.istore 4, 2) := by decide +kernel
theorem dX1_findCart_20 : decode cX1_findCart 20 = .ok (.aload_n 0, 1) := by decide +kernel
theorem dX1_findCart_21 : decode cX1_findCart 21 = .ok (.getfield 18, 3) := by decide +kernel
theorem dX1_findCart_24 : decode cX1_findCart 24 = .ok (.iconst 2, 1) := by decide +kernel
theorem dX1_findCart_25 : decode cX1_findCart 25 = .ok (.iload_n 3, 1) := by decide +kernel
theorem dX1_findCart_26 : decode cX1_findCart 26 = .ok (.imul, 1) := by decide +kernel
theorem dX1_findCart_27 : decode cX1_findCart 27 = .ok (.aload_n 2, 1) := by decide +kernel
theorem dX1_findCart_28 : decode cX1_findCart 28 = .ok (.getfield 60, 3) := by decide +kernel
theorem dX1_findCart_31 : decode cX1_findCart 31 = .ok (.iconst 3, 1) := by decide +kernel
theorem dX1_findCart_32 : decode cX1_findCart 32 = .ok (.iload_n 3, 1) := by decide +kernel
theorem dX1_findCart_33 : decode cX1_findCart 33 = .ok (.imul, 1) := by decide +kernel
theorem dX1_findCart_34 : decode cX1_findCart 34 = .ok (.iconst 1, 1) := by decide +kernel
theorem dX1_findCart_35 : decode cX1_findCart 35 = .ok (.iadd, 1) := by decide +kernel
theorem dX1_findCart_36 : decode cX1_findCart 36 = .ok (.iaload, 1) := by decide +kernel
theorem dX1_findCart_37 : decode cX1_findCart 37 = .ok (.aload_n 1, 1) := by decide +kernel
theorem dX1_findCart_38 : decode cX1_findCart 38 = .ok (.iload 4, 2) := by decide +kernel
theorem dX1_findCart_40 : decode cX1_findCart 40 = .ok (.iconst 0, 1) := by decide +kernel
theorem dX1_findCart_41 : decode cX1_findCart 41 = .ok (.invokevirtual 84, 3) := by decide +kernel
theorem dX1_findCart_44 : decode cX1_findCart 44 = .ok (.isub, 1) := by decide +kernel
theorem dX1_findCart_45 : decode cX1_findCart 45 = .ok (.iastore, 1) := by decide +kernel
theorem dX1_findCart_46 : decode cX1_findCart 46 = .ok (.aload_n 0, 1) := by decide +kernel
theorem dX1_findCart_47 : decode cX1_findCart 47 = .ok (.getfield 18, 3) := by decide +kernel
theorem dX1_findCart_50 : decode cX1_findCart 50 = .ok (.iconst 2, 1) := by decide +kernel
theorem dX1_findCart_51 : decode cX1_findCart 51 = .ok (.iload_n 3, 1) := by decide +kernel
theorem dX1_findCart_52 : decode cX1_findCart 52 = .ok (.imul, 1) := by decide +kernel
theorem dX1_findCart_53 : decode cX1_findCart 53 = .ok (.iconst 1, 1) := by decide +kernel
theorem dX1_findCart_54 : decode cX1_findCart 54 = .ok (.iadd, 1) := by decide +kernel
theorem dX1_findCart_55 : decode cX1_findCart 55 = .ok (.aload_n 2, 1) := by decide +kernel
theorem dX1_findCart_56 : decode cX1_findCart 56 = .ok (.getfield 60, 3) := by decide +kernel
theorem dX1_findCart_59 : decode cX1_findCart 59 = .ok (.iconst 3, 1) := by decide +kernel
theorem dX1_findCart_60 : decode cX1_findCart 60 = .ok (.iload_n 3, 1) := by decide +kernel
theorem dX1_findCart_61 : decode cX1_findCart 61 = .ok (.imul, 1) := by decide +kernel
theorem dX1_findCart_62 : decode cX1_findCart 62 = .ok (.iconst 2, 1) := by decide +kernel
theorem dX1_findCart_63 : decode cX1_findCart 63 = .ok (.iadd, 1) := by decide +kernel
theorem dX1_findCart_64 : decode cX1_findCart 64 = .ok (.iaload, 1) := by decide +kernel
theorem dX1_findCart_65 : decode cX1_findCart 65 = .ok (.aload_n 1, 1) := by decide +kernel
theorem dX1_findCart_66 : decode cX1_findCart 66 = .ok (.iload 4, 2) := by decide +kernel
theorem dX1_findCart_68 : decode cX1_findCart 68 = .ok (.iconst 1, 1) := by decide +kernel
theorem dX1_findCart_69 : decode cX1_findCart 69 = .ok (.invokevirtual 84, 3) := by decide +kernel
theorem dX1_findCart_72 : decode cX1_findCart 72 = .ok (.isub, 1) := by decide +kernel
theorem dX1_findCart_73 : decode cX1_findCart 73 = .ok (.iastore, 1) := by decide +kernel
theorem dX1_findCart_74 : decode cX1_findCart 74 = .ok (.iinc 3 1, 3) := by decide +kernel
theorem dX1_findCart_77 : decode cX1_findCart 77 = .ok (.goto (-75), 3) := by decide +kernel
theorem dX1_findCart_80 : decode cX1_findCart 80 = .ok (.aload_n 0, 1) := by decide +kernel
theorem dX1_findCart_81 : decode cX1_findCart 81 = .ok (.iconst 0, 1) := by decide +kernel
theorem dX1_findCart_82 : decode cX1_findCart 82 = .ok (.putfield 87, 3) := by decide +kernel
theorem dX1_findCart_85 : decode cX1_findCart 85 = .ok (.aload_n 0, 1) := by decide +kernel
theorem dX1_findCart_86 : decode cX1_findCart 86 = .ok (.iconst (-1), 1) := by decide +kernel
theorem dX1_findCart_87 : decode cX1_findCart 87 = .ok (.putfield 90, 3) := by decide +kernel
theorem dX1_findCart_90 : decode cX1_findCart 90 = .ok (.aload_n 0, 1) := by decide +kernel
theorem dX1_findCart_91 : decode cX1_findCart 91 = .ok (.iconst 0, 1) := by decide +kernel
theorem dX1_findCart_92 : decode cX1_findCart 92 = .ok (.putfield 93, 3) := by decide +kernel
theorem dX1_findCart_95 : decode cX1_findCart 95 = .ok (.aload_n 0, 1) := by decide +kernel
theorem dX1_findCart_96 : decode cX1_findCart 96 = .ok (.iconst 0, 1) := by decide +kernel
theorem dX1_findCart_97 : decode cX1_findCart 97 = .ok (.putfield 96, 3) := by decide +kernel
theorem dX1_findCart_100 : decode cX1_findCart 100 = .ok (.iconst 0, 1) := by decide +kernel
theorem dX1_findCart_101 : decode cX1_findCart 101 = .ok (.istore_n 3, 1) := by decide +kernel
theorem dX1_findCart_102 : decode cX1_findCart 102 = .ok (.iload_n 3, 1) := by decide +kernel
theorem dX1_findCart_103 : decode cX1_findCart 103 = .ok (.sipush 999, 3) := by decide +kernel
theorem dX1_findCart_106 : decode cX1_findCart 106 = .ok (.if_icmp .gt 15, 3) := by decide +kernel
theorem dX1_findCart_109 : decode cX1_findCart 109 = .ok (.aload_n 0, 1) := by decide +kernel
theorem dX1_findCart_110 : decode cX1_findCart 110 = .ok (.iload_n 3, 1) := by decide +kernel
theorem dX1_findCart_111 : decode cX1_findCart 111 = .ok (.aload_n 2, 1) := by decide +kernel
theorem dX1_findCart_112 : decode cX1_findCart 112 = .ok (.invokevirtual 99, 3) := by decide +kernel
theorem dX1_findCart_115 : decode cX1_findCart 115 = .ok (.iinc 3 1, 3) := by decide +kernel
theorem dX1_findCart_118 : decode cX1_findCart 118 = .ok (.goto (-16), 3) := by decide +kernel
theorem dX1_findCart_121 : decode cX1_findCart 121 = .ok (.return_, 1) := by decide +kernel
theorem bX1_findCart_0 {G : GX} {h : mH} {Q : mO → mH → Prop} {r1 : Nat} {r2 : Nat} (hi : Iv h) (k1 : kd r1 = (2, 11)) (k2 : kd r2 = (3, 7)) (K : Vw G jX1_findCart 2 [some (.ref 71), some (.ref r1), some (.ref r2), some (.int 0), none] [] h Q) : Vw G jX1_findCart 0 [some (.ref 71), some (.ref r1), some (.ref r2), none, none] [] h Q :=
  s_iconst 0 dX1_findCart_0 (by decide) (s_istore_n dX1_findCart_1 (Nat.le_of_ble_eq_true rfl) rfl (K))
theorem bX1_findCart_2 {G : GX} {h : mH} {Q : mO → mH → Prop} {r1 : Nat} {r2 : Nat} {v3 : Int32} (hi : Iv h) (k1 : kd r1 = (2, 11)) (k2 : kd r2 = (3, 7)) (K : ((gI h r2 3) ≤ v3 → Vw G jX1_findCart 102 [some (.ref 71), none, some (.ref r2), some (.int 0), none] [] (pI (pI (pI (pI h 71 4 0) 71 5 (-1)) 71 6 0) 71 7 0) Q) ∧ (¬ (gI h r2 3) ≤ v3 → (vp_in (3 * v3) 18 ∧ (vp_in ((3 * v3) + 1) 18 ∧ WM G jX2_swungTo [.ref r1, .int (gI h (r2 + 3) (Int32.toNatClampNeg (3 * v3))), .int 0] h (Aft G jX1_findCart 41 [some (.ref 71), some (.ref r1), some (.ref r2), some (.int v3), some (.int (gI h (r2 + 3) (Int32.toNatClampNeg (3 * v3))))] [.int (gI h (r2 + 3) (Int32.toNatClampNeg ((3 * v3) + 1))), .int (2 * v3), .ref 74] Q))))) : Vw G jX1_findCart 2 [some (.ref 71), some (.ref r1), some (.ref r2), some (.int v3), none] [] h Q :=
  s_iload_n dX1_findCart_2 rfl (s_aload_n dX1_findCart_3 rfl (s_getI dX1_findCart_4 flX1_42 (Or.inl rfl) (hi.sh k2 rfl) (s_icmp_ge 80 dX1_findCart_7 rfl (fun q3 => s_aload_n dX1_findCart_80 rfl (s_iconst 0 dX1_findCart_81 (by decide) (s_putI dX1_findCart_82 flX1_87 ff1_4 rfl (hi.sh rfl rfl) (s_aload_n dX1_findCart_85 rfl (s_iconst (-1) dX1_findCart_86 (by decide) (s_putI dX1_findCart_87 flX1_90 ff1_5 rfl (hi.sh rfl rfl) (s_aload_n dX1_findCart_90 rfl (s_iconst 0 dX1_findCart_91 (by decide) (s_putI dX1_findCart_92 flX1_93 ff1_6 rfl (hi.sh rfl rfl) (s_aload_n dX1_findCart_95 rfl (s_iconst 0 dX1_findCart_96 (by decide) (s_putI dX1_findCart_97 flX1_96 ff1_7 rfl (hi.sh rfl rfl) (s_iconst 0 dX1_findCart_100 (by decide) (s_istore_n dX1_findCart_101 (Nat.le_of_ble_eq_true rfl) rfl (Vw.mask [true, false, true, true, false] ((K.1 q3))))))))))))))))) (fun q3 => s_aload_n dX1_findCart_10 rfl (s_getR (v := .ref (r2 + 3)) dX1_findCart_11 flX1_60 rfl (hi.sh k2 rfl) (hi.rf (o := r2) (k := 4) (d := 3) k2 rfl) (s_iconst 3 dX1_findCart_14 (by decide) (s_iload_n dX1_findCart_15 rfl (s_imul dX1_findCart_16 (s_iaload dX1_findCart_17 (hi.sh (kd3_4 k2) rfl) (K.2 q3).1 (s_istore dX1_findCart_18 (Nat.le_of_ble_eq_true rfl) rfl (s_aload_n dX1_findCart_20 rfl (s_getR (v := .ref 74) dX1_findCart_21 flX1_18 rfl (hi.sh rfl rfl) (hi.rf (o := 71) (k := 10) (d := 3) rfl rfl) (s_iconst 2 dX1_findCart_24 (by decide) (s_iload_n dX1_findCart_25 rfl (s_imul dX1_findCart_26 (s_aload_n dX1_findCart_27 rfl (s_getR (v := .ref (r2 + 3)) dX1_findCart_28 flX1_60 rfl (hi.sh k2 rfl) (hi.rf (o := r2) (k := 4) (d := 3) k2 rfl) (s_iconst 3 dX1_findCart_31 (by decide) (s_iload_n dX1_findCart_32 rfl (s_imul dX1_findCart_33 (s_iconst 1 dX1_findCart_34 (by decide) (s_iadd dX1_findCart_35 (s_iaload dX1_findCart_36 (hi.sh (kd3_4 k2) rfl) (K.2 q3).2.1 (s_aload_n dX1_findCart_37 rfl (s_iload dX1_findCart_38 rfl (s_iconst 0 dX1_findCart_40 (by decide) (s_callV (As := [.int (gI h (r2 + 3) (Int32.toNatClampNeg (3 * v3))), .int 0]) dX1_findCart_41 rfl lvX1_84 ⟨Nat.le_of_ble_eq_true rfl, Nat.le_of_ble_eq_true rfl⟩ (hi.sh k1 rfl) ⟨_, _, by decide, rfl⟩ rfl (Nat.le_of_ble_eq_true rfl) ((K.2 q3).2.2))))))))))))))))))))))))))))
theorem bX1_findCart_44 {G : GX} {h : mH} {Q : mO → mH → Prop} {r1 : Nat} {r2 : Nat} {v3 : Int32} {v4 : Int32} {vs0 : Int32} {vs1 : Int32} {vs2 : Int32} (hi : Iv h) (k1 : kd r1 = (2, 11)) (k2 : kd r2 = (3, 7)) (K : vp_in vs2 12 ∧ (vp_in ((3 * v3) + 2) 18 ∧ WM G jX2_swungTo [.ref r1, .int v4, .int 1] (pI h 74 (Int32.toNatClampNeg vs2) (vs1 - vs0)) (Aft G jX1_findCart 69 [some (.ref 71), some (.ref r1), some (.ref r2), some (.int v3), none] [.int (gI (pI h 74 (Int32.toNatClampNeg vs2) (vs1 - vs0)) (r2 + 3) (Int32.toNatClampNeg ((3 * v3) + 2))), .int ((2 * v3) + 1), .ref 74] Q))) : Vw G jX1_findCart 44 [some (.ref 71), some (.ref r1), some (.ref r2), some (.int v3), some (.int v4)] [.int vs0, .int vs1, .int vs2, .ref 74] h Q :=
  s_isub dX1_findCart_44 (s_iastore dX1_findCart_45 (hi.sh rfl rfl) K.1 (s_aload_n dX1_findCart_46 rfl (s_getR (v := .ref 74) dX1_findCart_47 flX1_18 rfl (hi.sh rfl rfl) (hi.rf (o := 71) (k := 10) (d := 3) rfl rfl) (s_iconst 2 dX1_findCart_50 (by decide) (s_iload_n dX1_findCart_51 rfl (s_imul dX1_findCart_52 (s_iconst 1 dX1_findCart_53 (by decide) (s_iadd dX1_findCart_54 (s_aload_n dX1_findCart_55 rfl (s_getR (v := .ref (r2 + 3)) dX1_findCart_56 flX1_60 rfl (hi.sh k2 rfl) (hi.rf (o := r2) (k := 4) (d := 3) k2 rfl) (s_iconst 3 dX1_findCart_59 (by decide) (s_iload_n dX1_findCart_60 rfl (s_imul dX1_findCart_61 (s_iconst 2 dX1_findCart_62 (by decide) (s_iadd dX1_findCart_63 (s_iaload dX1_findCart_64 (hi.sh (kd3_4 k2) rfl) K.2.1 (s_aload_n dX1_findCart_65 rfl (s_iload dX1_findCart_66 rfl (s_iconst 1 dX1_findCart_68 (by decide) (Vw.mask [true, true, true, true, false] (s_callV (As := [.int v4, .int 1]) dX1_findCart_69 rfl lvX1_84 ⟨Nat.le_of_ble_eq_true rfl, Nat.le_of_ble_eq_true rfl⟩ (hi.sh k1 rfl) ⟨_, _, by decide, rfl⟩ rfl (Nat.le_of_ble_eq_true rfl) (K.2.2))))))))))))))))))))))
theorem bX1_findCart_72 {G : GX} {h : mH} {Q : mO → mH → Prop} {r1 : Nat} {r2 : Nat} {v3 : Int32} {vs0 : Int32} {vs1 : Int32} {vs2 : Int32} (hi : Iv h) (k1 : kd r1 = (2, 11)) (k2 : kd r2 = (3, 7)) (K : vp_in vs2 12 ∧ Vw G jX1_findCart 2 [some (.ref 71), some (.ref r1), some (.ref r2), some (.int (v3 + 1)), none] [] (pI h 74 (Int32.toNatClampNeg vs2) (vs1 - vs0)) Q) : Vw G jX1_findCart 72 [some (.ref 71), some (.ref r1), some (.ref r2), some (.int v3), none] [.int vs0, .int vs1, .int vs2, .ref 74] h Q :=
  s_isub dX1_findCart_72 (s_iastore dX1_findCart_73 (hi.sh rfl rfl) K.1 (s_iinc 1 dX1_findCart_74 rfl (by decide) (Nat.le_of_ble_eq_true rfl) rfl (s_goto 2 dX1_findCart_77 rfl (K.2))))
theorem bX1_findCart_102 {G : GX} {h : mH} {Q : mO → mH → Prop} {r2 : Nat} {v3 : Int32} (hi : Iv h) (k2 : kd r2 = (3, 7)) (K : (999 < v3 → Q (.inl none) h) ∧ (¬ 999 < v3 → WM G jX1_tryCart [.ref 71, .int v3, .ref r2] h (Aft G jX1_findCart 112 [some (.ref 71), none, some (.ref r2), some (.int v3), none] [] Q))) : Vw G jX1_findCart 102 [some (.ref 71), none, some (.ref r2), some (.int v3), none] [] h Q :=
  s_iload_n dX1_findCart_102 rfl (s_sipush 999 dX1_findCart_103 (by decide) (s_icmp_gt 121 dX1_findCart_106 rfl (fun q2 => s_return dX1_findCart_121 rfl (K.1 q2)) (fun q2 => s_aload_n dX1_findCart_109 rfl (s_iload_n dX1_findCart_110 rfl (s_aload_n dX1_findCart_111 rfl (s_callV (As := [.int v3, .ref r2]) dX1_findCart_112 rfl lvX1_99 ⟨Nat.le_of_ble_eq_true rfl, Nat.le_of_ble_eq_true rfl⟩ (hi.sh rfl rfl) ⟨_, _, by decide, rfl⟩ rfl (Nat.le_of_ble_eq_true rfl) ((K.2 q2))))))))
theorem bX1_findCart_115 {G : GX} {h : mH} {Q : mO → mH → Prop} {r2 : Nat} {v3 : Int32} (hi : Iv h) (k2 : kd r2 = (3, 7)) (K : Vw G jX1_findCart 102 [some (.ref 71), none, some (.ref r2), some (.int (v3 + 1)), none] [] h Q) : Vw G jX1_findCart 115 [some (.ref 71), none, some (.ref r2), some (.int v3), none] [] h Q :=
  s_iinc 1 dX1_findCart_115 rfl (by decide) (Nat.le_of_ble_eq_true rfl) rfl (s_goto 102 dX1_findCart_118 rfl (K))
theorem eX1_findCart {G : GX} {h : mH} {Q : mO → mH → Prop} {r1 : Nat} {r2 : Nat} (hi : Iv h) (k1 : kd r1 = (2, 11)) (k2 : kd r2 = (3, 7)) (K : Vw G jX1_findCart 2 [some (.ref 71), some (.ref r1), some (.ref r2), some (.int 0), none] [] h Q) : WM G jX1_findCart [.ref 71, .ref r1, .ref r2] h Q :=
  WM.body (ls := [some (.ref 71), some (.ref r1), some (.ref r2), none, none]) rfl (by decide +kernel) rfl (Nat.le_of_ble_eq_true rfl) rfl ((bX1_findCart_0 hi k1 k2 K))
theorem dX0_clear_0 : decode cX0_clear 0 = .ok (.aload_n 0, 1) := by decide +kernel
theorem dX0_clear_1 : decode cX0_clear 1 = .ok (.iconst 0, 1) := by decide +kernel
theorem dX0_clear_2 : decode cX0_clear 2 = .ok (.putfield 24, 3) := by decide +kernel
theorem dX0_clear_5 : decode cX0_clear 5 = .ok (.aload_n 0, 1) := by decide +kernel
theorem dX0_clear_6 : decode cX0_clear 6 = .ok (.iconst 0, 1) := by decide +kernel
theorem dX0_clear_7 : decode cX0_clear 7 = .ok (.putfield 28, 3) := by decide +kernel
theorem dX0_clear_10 : decode cX0_clear 10 = .ok (.return_, 1) := by decide +kernel
theorem bX0_clear_0 {G : GX} {h : mH} {Q : mO → mH → Prop} (hi : Iv h) (K : Q (.inl none) (pI (pI h 75 1 0) 75 2 0)) : Vw G jX0_clear 0 [some (.ref 75)] [] h Q :=
  s_aload_n dX0_clear_0 rfl (s_iconst 0 dX0_clear_1 (by decide) (s_putI dX0_clear_2 flX0_24 ff0_1 rfl (hi.sh rfl rfl) (s_aload_n dX0_clear_5 rfl (s_iconst 0 dX0_clear_6 (by decide) (s_putI dX0_clear_7 flX0_28 ff0_2 rfl (hi.sh rfl rfl) (s_return dX0_clear_10 rfl K))))))
theorem eX0_clear {G : GX} {h : mH} {Q : mO → mH → Prop} (hi : Iv h) (K : Q (.inl none) (pI (pI h 75 1 0) 75 2 0)) : WM G jX0_clear [.ref 75] h Q :=
  WM.body (ls := [some (.ref 75)]) rfl (by decide +kernel) rfl (Nat.le_of_ble_eq_true rfl) rfl ((bX0_clear_0 hi  K))
theorem dX0_pennies_0 : decode cX0_pennies 0 = .ok (.iconst 0, 1) := by decide +kernel
theorem dX0_pennies_1 : decode cX0_pennies 1 = .ok (.istore 4, 2) := by decide +kernel
theorem dX0_pennies_3 : decode cX0_pennies 3 = .ok (.iconst 0, 1) := by decide +kernel
theorem dX0_pennies_4 : decode cX0_pennies 4 = .ok (.istore 5, 2) := by decide +kernel
theorem dX0_pennies_6 : decode cX0_pennies 6 = .ok (.iload 5, 2) := by decide +kernel
theorem dX0_pennies_8 : decode cX0_pennies 8 = .ok (.iconst 4, 1) := by decide +kernel
theorem dX0_pennies_9 : decode cX0_pennies 9 = .ok (.if_icmp .ge 30, 3) := by decide +kernel
theorem dX0_pennies_12 : decode cX0_pennies 12 = .ok (.iload 4, 2) := by decide +kernel
theorem dX0_pennies_14 : decode cX0_pennies 14 = .ok (.aload_n 0, 1) := by decide +kernel
theorem dX0_pennies_15 : decode cX0_pennies 15 = .ok (.iload_n 1, 1) := by decide +kernel
theorem dX0_pennies_16 : decode cX0_pennies 16 = .ok (.iload 5, 2) := by decide +kernel
theorem dX0_pennies_18 : decode cX0_pennies 18 = .ok (.iadd, 1) := by decide +kernel
theorem dX0_pennies_19 : decode cX0_pennies 19 = .ok (.iaload, 1) := by decide +kernel
theorem dX0_pennies_20 : decode cX0_pennies 20 = .ok (.aload_n 2, 1) := by decide +kernel
theorem dX0_pennies_21 : decode cX0_pennies 21 = .ok (.iload_n 3, 1) := by decide +kernel
theorem dX0_pennies_22 : decode cX0_pennies 22 = .ok (.iload 5, 2) := by decide +kernel
theorem dX0_pennies_24 : decode cX0_pennies 24 = .ok (.iadd, 1) := by decide +kernel
theorem dX0_pennies_25 : decode cX0_pennies 25 = .ok (.iaload, 1) := by decide +kernel
theorem dX0_pennies_26 : decode cX0_pennies 26 = .ok (.isub, 1) := by decide +kernel
theorem dX0_pennies_27 : decode cX0_pennies 27 = .ok (.invokestatic 63, 3) := by decide +kernel
theorem dX0_pennies_30 : decode cX0_pennies 30 = .ok (.iadd, 1) := by decide +kernel
theorem dX0_pennies_31 : decode cX0_pennies 31 = .ok (.istore 4, 2) := by decide +kernel
theorem dX0_pennies_33 : decode cX0_pennies 33 = .ok (.iinc 5 1, 3) := by decide +kernel
theorem dX0_pennies_36 : decode cX0_pennies 36 = .ok (.goto (-30), 3) := by decide +kernel
theorem dX0_pennies_39 : decode cX0_pennies 39 = .ok (.iload 4, 2) := by decide +kernel
theorem dX0_pennies_41 : decode cX0_pennies 41 = .ok (.ireturn, 1) := by decide +kernel
theorem bX0_pennies_0 {G : GX} {h : mH} {Q : mO → mH → Prop} {r0 : Nat} {n0 : Nat} {v1 : Int32} {r2 : Nat} {n2 : Nat} {v3 : Int32} (hi : Iv h) (k0 : kd r0 = (100, n0)) (k2 : kd r2 = (100, n2)) (K : Vw G jX0_pennies 6 [some (.ref r0), some (.int v1), some (.ref r2), some (.int v3), some (.int 0), some (.int 0)] [] h Q) : Vw G jX0_pennies 0 [some (.ref r0), some (.int v1), some (.ref r2), some (.int v3), none, none] [] h Q :=
  s_iconst 0 dX0_pennies_0 (by decide) (s_istore dX0_pennies_1 (Nat.le_of_ble_eq_true rfl) rfl (s_iconst 0 dX0_pennies_3 (by decide) (s_istore dX0_pennies_4 (Nat.le_of_ble_eq_true rfl) rfl (K))))
theorem bX0_pennies_6 {G : GX} {h : mH} {Q : mO → mH → Prop} {r0 : Nat} {n0 : Nat} {v1 : Int32} {r2 : Nat} {n2 : Nat} {v3 : Int32} {v4 : Int32} {v5 : Int32} (hi : Iv h) (k0 : kd r0 = (100, n0)) (k2 : kd r2 = (100, n2)) (K : (4 ≤ v5 → Q (.inl (some (.int v4))) h) ∧ (¬ 4 ≤ v5 → (vp_in (v1 + v5) n0 ∧ (vp_in (v3 + v5) n2 ∧ Vw G jX0_pennies 6 [some (.ref r0), some (.int v1), some (.ref r2), some (.int v3), some (.int (v4 + (fJ9_abs_0f7a4 ((gI h r0 (Int32.toNatClampNeg (v1 + v5))) - (gI h r2 (Int32.toNatClampNeg (v3 + v5))))))), some (.int (v5 + 1))] [] h Q)))) : Vw G jX0_pennies 6 [some (.ref r0), some (.int v1), some (.ref r2), some (.int v3), some (.int v4), some (.int v5)] [] h Q :=
  s_iload dX0_pennies_6 rfl (s_iconst 4 dX0_pennies_8 (by decide) (s_icmp_ge 39 dX0_pennies_9 rfl (fun q2 => s_iload dX0_pennies_39 rfl (s_ireturn dX0_pennies_41 rfl (K.1 q2))) (fun q2 => s_iload dX0_pennies_12 rfl (s_aload_n dX0_pennies_14 rfl (s_iload_n dX0_pennies_15 rfl (s_iload dX0_pennies_16 rfl (s_iadd dX0_pennies_18 (s_iaload dX0_pennies_19 (hi.sh k0 rfl) (K.2 q2).1 (s_aload_n dX0_pennies_20 rfl (s_iload_n dX0_pennies_21 rfl (s_iload dX0_pennies_22 rfl (s_iadd dX0_pennies_24 (s_iaload dX0_pennies_25 (hi.sh k2 rfl) (K.2 q2).2.1 (s_isub dX0_pennies_26 (s_callS (As := [.int ((gI h r0 (Int32.toNatClampNeg (v1 + v5))) - (gI h r2 (Int32.toNatClampNeg (v3 + v5))))]) dX0_pennies_27 rfl lsX0_63 ⟨Nat.le_of_ble_eq_true rfl, Nat.le_of_ble_eq_true rfl⟩ rfl (Nat.le_of_ble_eq_true rfl) (mJ9_abs_0f7a4   (s_iadd dX0_pennies_30 (s_istore dX0_pennies_31 (Nat.le_of_ble_eq_true rfl) rfl (s_iinc 1 dX0_pennies_33 rfl (by decide) (Nat.le_of_ble_eq_true rfl) rfl (s_goto 6 dX0_pennies_36 rfl ((K.2 q2).2.2)))))))))))))))))))))
theorem eX0_pennies {G : GX} {h : mH} {Q : mO → mH → Prop} {r0 : Nat} {n0 : Nat} {v1 : Int32} {r2 : Nat} {n2 : Nat} {v3 : Int32} (hi : Iv h) (k0 : kd r0 = (100, n0)) (k2 : kd r2 = (100, n2)) (K : Vw G jX0_pennies 6 [some (.ref r0), some (.int v1), some (.ref r2), some (.int v3), some (.int 0), some (.int 0)] [] h Q) : WM G jX0_pennies [.ref r0, .int v1, .ref r2, .int v3] h Q :=
  WM.body (ls := [some (.ref r0), some (.int v1), some (.ref r2), some (.int v3), none, none]) rfl (by decide +kernel) rfl (Nat.le_of_ble_eq_true rfl) rfl ((bX0_pennies_0 hi k0 k2 K))
theorem dX0_measure_0 : decode cX0_measure 0 = .ok (.aload_n 1, 1) := by decide +kernel
theorem dX0_measure_1 : decode cX0_measure 1 = .ok (.getfield 47, 3) := by decide +kernel
theorem dX0_measure_4 : decode cX0_measure 4 = .ok (.astore_n 3, 1) := by decide +kernel
theorem dX0_measure_5 : decode cX0_measure 5 = .ok (.iconst 0, 1) := by decide +kernel
theorem dX0_measure_6 : decode cX0_measure 6 = .ok (.istore 4, 2) := by decide +kernel
theorem dX0_measure_8 : decode cX0_measure 8 = .ok (.iload 4, 2) := by decide +kernel
theorem dX0_measure_10 : decode cX0_measure 10 = .ok (.aload_n 1, 1) := by decide +kernel
theorem dX0_measure_11 : decode cX0_measure 11 = .ok (.getfield 52, 3) := by decide +kernel
theorem dX0_measure_14 : decode cX0_measure 14 = .ok (.if_icmp .ge 124, 3) := by decide +kernel
theorem dX0_measure_17 : decode cX0_measure 17 = .ok (.iconst 0, 1) := by decide +kernel
theorem dX0_measure_18 : decode cX0_measure 18 = .ok (.istore 5, 2) := by decide +kernel
theorem dX0_measure_20 : decode cX0_measure 20 = .ok (.iload 5, 2) := by decide +kernel
theorem dX0_measure_22 : decode cX0_measure 22 = .ok (.aload_n 1, 1) := by decide +kernel
theorem dX0_measure_23 : decode cX0_measure 23 = .ok (.getfield 52, 3) := by decide +kernel
theorem dX0_measure_26 : decode cX0_measure 26 = .ok (.if_icmp .ge 36, 3) := by decide +kernel
theorem dX0_measure_29 : decode cX0_measure 29 = .ok (.aload_n 0, 1) := by decide +kernel
theorem dX0_measure_30 : decode cX0_measure 30 = .ok (.getfield 15, 3) := by decide +kernel
theorem dX0_measure_33 : decode cX0_measure 33 = .ok (.iload 5, 2) := by decide +kernel
theorem dX0_measure_35 : decode cX0_measure 35 = .ok (.iload 4, 2) := by decide +kernel
theorem dX0_measure_37 : decode cX0_measure 37 = .ok (.invokestatic 55, 3) := by decide +kernel
theorem dX0_measure_40 : decode cX0_measure 40 = .ok (.aload_n 3, 1) := by decide +kernel
theorem dX0_measure_41 : decode cX0_measure 41 = .ok (.bipush 12, 2) := by decide +kernel
theorem dX0_measure_43 : decode cX0_measure 43 = .ok (.iload 5, 2) := by decide +kernel
theorem dX0_measure_45 : decode cX0_measure 45 = .ok (.imul, 1) := by decide +kernel
theorem dX0_measure_46 : decode cX0_measure 46 = .ok (.aload_n 3, 1) := by decide +kernel
theorem dX0_measure_47 : decode cX0_measure 47 = .ok (.bipush 12, 2) := by decide +kernel
theorem dX0_measure_49 : decode cX0_measure 49 = .ok (.iload 4, 2) := by decide +kernel
theorem dX0_measure_51 : decode cX0_measure 51 = .ok (.imul, 1) := by decide +kernel
theorem dX0_measure_52 : decode cX0_measure 52 = .ok (.invokestatic 59, 3) := by decide +kernel
theorem dX0_measure_55 : decode cX0_measure 55 = .ok (.iastore, 1) := by decide +kernel
theorem dX0_measure_56 : decode cX0_measure 56 = .ok (.iinc 5 1, 3) := by decide +kernel
theorem dX0_measure_59 : decode cX0_measure 59 = .ok (.goto (-39), 3) := by decide +kernel
theorem dX0_measure_62 : decode cX0_measure 62 = .ok (.aload_n 0, 1) := by decide +kernel
theorem dX0_measure_63 : decode cX0_measure 63 = .ok (.getfield 15, 3) := by decide +kernel
theorem dX0_measure_66 : decode cX0_measure 66 = .ok (.bipush 8, 2) := by decide +kernel
theorem dX0_measure_68 : decode cX0_measure 68 = .ok (.iload 4, 2) := by decide +kernel
theorem dX0_measure_70 : decode cX0_measure 70 = .ok (.invokestatic 55, 3) := by decide +kernel
theorem dX0_measure_73 : decode cX0_measure 73 = .ok (.aload_n 2, 1) := by decide +kernel
theorem dX0_measure_74 : decode cX0_measure 74 = .ok (.iconst 0, 1) := by decide +kernel
theorem dX0_measure_75 : decode cX0_measure 75 = .ok (.aload_n 3, 1) := by decide +kernel
theorem dX0_measure_76 : decode cX0_measure 76 = .ok (.bipush 12, 2) := by decide +kernel
theorem dX0_measure_78 : decode cX0_measure 78 = .ok (.iload 4, 2) := by decide +kernel
theorem dX0_measure_80 : decode cX0_measure 80 = .ok (.imul, 1) := by decide +kernel
theorem dX0_measure_81 : decode cX0_measure 81 = .ok (.invokestatic 59, 3) := by decide +kernel
theorem dX0_measure_84 : decode cX0_measure 84 = .ok (.iastore, 1) := by decide +kernel
theorem dX0_measure_85 : decode cX0_measure 85 = .ok (.iconst 0, 1) := by decide +kernel
theorem dX0_measure_86 : decode cX0_measure 86 = .ok (.istore 5, 2) := by decide +kernel
theorem dX0_measure_88 : decode cX0_measure 88 = .ok (.iconst 0, 1) := by decide +kernel
theorem dX0_measure_89 : decode cX0_measure 89 = .ok (.istore 6, 2) := by decide +kernel
theorem dX0_measure_91 : decode cX0_measure 91 = .ok (.iload 6, 2) := by decide +kernel
theorem dX0_measure_93 : decode cX0_measure 93 = .ok (.iconst 4, 1) := by decide +kernel
theorem dX0_measure_94 : decode cX0_measure 94 = .ok (.if_icmp .ge 24, 3) := by decide +kernel
theorem dX0_measure_97 : decode cX0_measure 97 = .ok (.iload 5, 2) := by decide +kernel
theorem dX0_measure_99 : decode cX0_measure 99 = .ok (.aload_n 3, 1) := by decide +kernel
theorem dX0_measure_100 : decode cX0_measure 100 = .ok (.bipush 12, 2) := by decide +kernel
theorem dX0_measure_102 : decode cX0_measure 102 = .ok (.iload 4, 2) := by decide +kernel
theorem dX0_measure_104 : decode cX0_measure 104 = .ok (.imul, 1) := by decide +kernel
theorem dX0_measure_105 : decode cX0_measure 105 = .ok (.iload 6, 2) := by decide +kernel
theorem dX0_measure_107 : decode cX0_measure 107 = .ok (.iadd, 1) := by decide +kernel
theorem dX0_measure_108 : decode cX0_measure 108 = .ok (.iaload, 1) := by decide +kernel
theorem dX0_measure_109 : decode cX0_measure 109 = .ok (.iadd, 1) := by decide +kernel
theorem dX0_measure_110 : decode cX0_measure 110 = .ok (.istore 5, 2) := by decide +kernel
theorem dX0_measure_112 : decode cX0_measure 112 = .ok (.iinc 6 1, 3) := by decide +kernel
theorem dX0_measure_115 : decode cX0_measure 115 = .ok (.goto (-24), 3) := by decide +kernel
theorem dX0_measure_118 : decode cX0_measure 118 = .ok (.aload_n 0, 1) := by decide +kernel
theorem dX0_measure_119 : decode cX0_measure 119 = .ok (.getfield 15, 3) := by decide +kernel
theorem dX0_measure_122 : decode cX0_measure 122 = .ok (.bipush 9, 2) := by decide +kernel
theorem dX0_measure_124 : decode cX0_measure 124 = .ok (.iload 4, 2) := by decide +kernel
theorem dX0_measure_126 : decode cX0_measure 126 = .ok (.invokestatic 55, 3) := by decide +kernel
theorem dX0_measure_129 : decode cX0_measure 129 = .ok (.iload 5, 2) := by decide +kernel
theorem dX0_measure_131 : decode cX0_measure 131 = .ok (.iastore, 1) := by decide +kernel
theorem dX0_measure_132 : decode cX0_measure 132 = .ok (.iinc 4 1, 3) := by decide +kernel
theorem dX0_measure_135 : decode cX0_measure 135 = .ok (.goto (-127), 3) := by decide +kernel
theorem dX0_measure_138 : decode cX0_measure 138 = .ok (.return_, 1) := by decide +kernel
theorem bX0_measure_0 {G : GX} {h : mH} {Q : mO → mH → Prop} {r1 : Nat} {r2 : Nat} {n2 : Nat} (hi : Iv h) (k1 : kd r1 = (3, 7)) (k2 : kd r2 = (100, n2)) (K : Vw G jX0_measure 8 [some (.ref 75), some (.ref r1), some (.ref r2), some (.ref (r1 + 2)), some (.int 0), none, none] [] h Q) : Vw G jX0_measure 0 [some (.ref 75), some (.ref r1), some (.ref r2), none, none, none, none] [] h Q :=
  s_aload_n dX0_measure_0 rfl (s_getR (v := .ref (r1 + 2)) dX0_measure_1 flX0_47 rfl (hi.sh k1 rfl) (hi.rf (o := r1) (k := 2) (d := 2) k1 rfl) (s_astore_n dX0_measure_4 (Nat.le_of_ble_eq_true rfl) rfl (s_iconst 0 dX0_measure_5 (by decide) (s_istore dX0_measure_6 (Nat.le_of_ble_eq_true rfl) rfl (K)))))
theorem bX0_measure_8 {G : GX} {h : mH} {Q : mO → mH → Prop} {r1 : Nat} {r2 : Nat} {n2 : Nat} {r3 : Nat} {n3 : Nat} {v4 : Int32} (hi : Iv h) (k1 : kd r1 = (3, 7)) (k2 : kd r2 = (100, n2)) (k3 : kd r3 = (100, n3)) (K : ((gI h r1 1) ≤ v4 → Q (.inl none) h) ∧ (¬ (gI h r1 1) ≤ v4 → Vw G jX0_measure 20 [some (.ref 75), some (.ref r1), some (.ref r2), some (.ref r3), some (.int v4), some (.int 0), none] [] h Q)) : Vw G jX0_measure 8 [some (.ref 75), some (.ref r1), some (.ref r2), some (.ref r3), some (.int v4), none, none] [] h Q :=
  s_iload dX0_measure_8 rfl (s_aload_n dX0_measure_10 rfl (s_getI dX0_measure_11 flX0_52 (Or.inl rfl) (hi.sh k1 rfl) (s_icmp_ge 138 dX0_measure_14 rfl (fun q3 => s_return dX0_measure_138 rfl (K.1 q3)) (fun q3 => s_iconst 0 dX0_measure_17 (by decide) (s_istore dX0_measure_18 (Nat.le_of_ble_eq_true rfl) rfl ((K.2 q3)))))))
theorem bX0_measure_20 {G : GX} {h : mH} {Q : mO → mH → Prop} {r1 : Nat} {r2 : Nat} {n2 : Nat} {r3 : Nat} {n3 : Nat} {v4 : Int32} {v5 : Int32} (hi : Iv h) (k1 : kd r1 = (3, 7)) (k2 : kd r2 = (100, n2)) (k3 : kd r3 = (100, n3)) (K : ((gI h r1 1) ≤ v5 → WM G jX0_pennies [.ref r2, .int 0, .ref r3, .int (12 * v4)] h (Aft G jX0_measure 81 [some (.ref 75), some (.ref r1), some (.ref r2), some (.ref r3), some (.int v4), none, none] [.int (fX0_apartOf 8 v4), .ref 77] Q)) ∧ (¬ (gI h r1 1) ≤ v5 → WM G jX0_pennies [.ref r3, .int (12 * v5), .ref r3, .int (12 * v4)] h (Aft G jX0_measure 52 [some (.ref 75), some (.ref r1), some (.ref r2), some (.ref r3), some (.int v4), some (.int v5), none] [.int (fX0_apartOf v5 v4), .ref 77] Q))) : Vw G jX0_measure 20 [some (.ref 75), some (.ref r1), some (.ref r2), some (.ref r3), some (.int v4), some (.int v5), none] [] h Q :=
  s_iload dX0_measure_20 rfl (s_aload_n dX0_measure_22 rfl (s_getI dX0_measure_23 flX0_52 (Or.inl rfl) (hi.sh k1 rfl) (s_icmp_ge 62 dX0_measure_26 rfl (fun q3 => s_aload_n dX0_measure_62 rfl (s_getR (v := .ref 77) dX0_measure_63 flX0_15 rfl (hi.sh rfl rfl) (hi.rf (o := 75) (k := 3) (d := 2) rfl rfl) (s_bipush 8 dX0_measure_66 (by decide) (s_iload dX0_measure_68 rfl (s_callS (As := [.int 8, .int v4]) dX0_measure_70 rfl lsX0_55 ⟨Nat.le_of_ble_eq_true rfl, Nat.le_of_ble_eq_true rfl⟩ rfl (Nat.le_of_ble_eq_true rfl) (mX0_apartOf   (s_aload_n dX0_measure_73 rfl (s_iconst 0 dX0_measure_74 (by decide) (s_aload_n dX0_measure_75 rfl (s_bipush 12 dX0_measure_76 (by decide) (s_iload dX0_measure_78 rfl (s_imul dX0_measure_80 (Vw.mask [true, true, true, true, true, false, false] (s_callS (As := [.ref r2, .int 0, .ref r3, .int (12 * v4)]) dX0_measure_81 rfl lsX0_59 ⟨Nat.le_of_ble_eq_true rfl, Nat.le_of_ble_eq_true rfl⟩ rfl (Nat.le_of_ble_eq_true rfl) ((K.1 q3)))))))))))))))) (fun q3 => s_aload_n dX0_measure_29 rfl (s_getR (v := .ref 77) dX0_measure_30 flX0_15 rfl (hi.sh rfl rfl) (hi.rf (o := 75) (k := 3) (d := 2) rfl rfl) (s_iload dX0_measure_33 rfl (s_iload dX0_measure_35 rfl (s_callS (As := [.int v5, .int v4]) dX0_measure_37 rfl lsX0_55 ⟨Nat.le_of_ble_eq_true rfl, Nat.le_of_ble_eq_true rfl⟩ rfl (Nat.le_of_ble_eq_true rfl) (mX0_apartOf   (s_aload_n dX0_measure_40 rfl (s_bipush 12 dX0_measure_41 (by decide) (s_iload dX0_measure_43 rfl (s_imul dX0_measure_45 (s_aload_n dX0_measure_46 rfl (s_bipush 12 dX0_measure_47 (by decide) (s_iload dX0_measure_49 rfl (s_imul dX0_measure_51 (s_callS (As := [.ref r3, .int (12 * v5), .ref r3, .int (12 * v4)]) dX0_measure_52 rfl lsX0_59 ⟨Nat.le_of_ble_eq_true rfl, Nat.le_of_ble_eq_true rfl⟩ rfl (Nat.le_of_ble_eq_true rfl) ((K.2 q3))))))))))))))))))))
theorem bX0_measure_55 {G : GX} {h : mH} {Q : mO → mH → Prop} {r1 : Nat} {r2 : Nat} {n2 : Nat} {r3 : Nat} {n3 : Nat} {v4 : Int32} {v5 : Int32} {vs0 : Int32} {vs1 : Int32} (hi : Iv h) (k1 : kd r1 = (3, 7)) (k2 : kd r2 = (100, n2)) (k3 : kd r3 = (100, n3)) (K : vp_in vs1 80 ∧ Vw G jX0_measure 20 [some (.ref 75), some (.ref r1), some (.ref r2), some (.ref r3), some (.int v4), some (.int (v5 + 1)), none] [] (pI h 77 (Int32.toNatClampNeg vs1) vs0) Q) : Vw G jX0_measure 55 [some (.ref 75), some (.ref r1), some (.ref r2), some (.ref r3), some (.int v4), some (.int v5), none] [.int vs0, .int vs1, .ref 77] h Q :=
  s_iastore dX0_measure_55 (hi.sh rfl rfl) K.1 (s_iinc 1 dX0_measure_56 rfl (by decide) (Nat.le_of_ble_eq_true rfl) rfl (s_goto 20 dX0_measure_59 rfl (K.2)))
theorem bX0_measure_84 {G : GX} {h : mH} {Q : mO → mH → Prop} {r1 : Nat} {r2 : Nat} {n2 : Nat} {r3 : Nat} {n3 : Nat} {v4 : Int32} {vs0 : Int32} {vs1 : Int32} (hi : Iv h) (k1 : kd r1 = (3, 7)) (k2 : kd r2 = (100, n2)) (k3 : kd r3 = (100, n3)) (K : vp_in vs1 80 ∧ Vw G jX0_measure 91 [some (.ref 75), some (.ref r1), some (.ref r2), some (.ref r3), some (.int v4), some (.int 0), some (.int 0)] [] (pI h 77 (Int32.toNatClampNeg vs1) vs0) Q) : Vw G jX0_measure 84 [some (.ref 75), some (.ref r1), some (.ref r2), some (.ref r3), some (.int v4), none, none] [.int vs0, .int vs1, .ref 77] h Q :=
  s_iastore dX0_measure_84 (hi.sh rfl rfl) K.1 (s_iconst 0 dX0_measure_85 (by decide) (s_istore dX0_measure_86 (Nat.le_of_ble_eq_true rfl) rfl (s_iconst 0 dX0_measure_88 (by decide) (s_istore dX0_measure_89 (Nat.le_of_ble_eq_true rfl) rfl (K.2)))))
theorem bX0_measure_91 {G : GX} {h : mH} {Q : mO → mH → Prop} {r1 : Nat} {r2 : Nat} {n2 : Nat} {r3 : Nat} {n3 : Nat} {v4 : Int32} {v5 : Int32} {v6 : Int32} (hi : Iv h) (k1 : kd r1 = (3, 7)) (k2 : kd r2 = (100, n2)) (k3 : kd r3 = (100, n3)) (K : (4 ≤ v6 → (vp_in (fX0_apartOf 9 v4) 80 ∧ Vw G jX0_measure 8 [some (.ref 75), some (.ref r1), some (.ref r2), some (.ref r3), some (.int (v4 + 1)), none, none] [] (pI h 77 (Int32.toNatClampNeg (fX0_apartOf 9 v4)) v5) Q)) ∧ (¬ 4 ≤ v6 → (vp_in ((12 * v4) + v6) n3 ∧ Vw G jX0_measure 91 [some (.ref 75), some (.ref r1), some (.ref r2), some (.ref r3), some (.int v4), some (.int (v5 + (gI h r3 (Int32.toNatClampNeg ((12 * v4) + v6))))), some (.int (v6 + 1))] [] h Q))) : Vw G jX0_measure 91 [some (.ref 75), some (.ref r1), some (.ref r2), some (.ref r3), some (.int v4), some (.int v5), some (.int v6)] [] h Q :=
  s_iload dX0_measure_91 rfl (s_iconst 4 dX0_measure_93 (by decide) (s_icmp_ge 118 dX0_measure_94 rfl (fun q2 => s_aload_n dX0_measure_118 rfl (s_getR (v := .ref 77) dX0_measure_119 flX0_15 rfl (hi.sh rfl rfl) (hi.rf (o := 75) (k := 3) (d := 2) rfl rfl) (s_bipush 9 dX0_measure_122 (by decide) (s_iload dX0_measure_124 rfl (s_callS (As := [.int 9, .int v4]) dX0_measure_126 rfl lsX0_55 ⟨Nat.le_of_ble_eq_true rfl, Nat.le_of_ble_eq_true rfl⟩ rfl (Nat.le_of_ble_eq_true rfl) (mX0_apartOf   (s_iload dX0_measure_129 rfl (s_iastore dX0_measure_131 (hi.sh rfl rfl) (K.1 q2).1 (s_iinc 1 dX0_measure_132 rfl (by decide) (Nat.le_of_ble_eq_true rfl) rfl (s_goto 8 dX0_measure_135 rfl (Vw.mask [true, true, true, true, true, false, false] ((K.1 q2).2)))))))))))) (fun q2 => s_iload dX0_measure_97 rfl (s_aload_n dX0_measure_99 rfl (s_bipush 12 dX0_measure_100 (by decide) (s_iload dX0_measure_102 rfl (s_imul dX0_measure_104 (s_iload dX0_measure_105 rfl (s_iadd dX0_measure_107 (s_iaload dX0_measure_108 (hi.sh k3 rfl) (K.2 q2).1 (s_iadd dX0_measure_109 (s_istore dX0_measure_110 (Nat.le_of_ble_eq_true rfl) rfl (s_iinc 1 dX0_measure_112 rfl (by decide) (Nat.le_of_ble_eq_true rfl) rfl (s_goto 91 dX0_measure_115 rfl ((K.2 q2).2)))))))))))))))
theorem eX0_measure {G : GX} {h : mH} {Q : mO → mH → Prop} {r1 : Nat} {r2 : Nat} {n2 : Nat} (hi : Iv h) (k1 : kd r1 = (3, 7)) (k2 : kd r2 = (100, n2)) (K : Vw G jX0_measure 8 [some (.ref 75), some (.ref r1), some (.ref r2), some (.ref (r1 + 2)), some (.int 0), none, none] [] h Q) : WM G jX0_measure [.ref 75, .ref r1, .ref r2] h Q :=
  WM.body (ls := [some (.ref 75), some (.ref r1), some (.ref r2), none, none, none, none]) rfl (by decide +kernel) rfl (Nat.le_of_ble_eq_true rfl) rfl ((bX0_measure_0 hi k1 k2 K))
theorem dX0_weigh_0 : decode cX0_weigh 0 = .ok (.iload_n 1, 1) := by decide +kernel
theorem dX0_weigh_1 : decode cX0_weigh 1 = .ok (.ifCond .ne 7, 3) := by decide +kernel
theorem dX0_weigh_4 : decode cX0_weigh 4 = .ok (.iconst 0, 1) := by decide +kernel
theorem dX0_weigh_5 : decode cX0_weigh 5 = .ok (.goto 5, 3) := by decide +kernel
theorem dX0_weigh_8 : decode cX0_weigh 8 = .ok (.ldc 68, 2) := by decide +kernel
theorem dX0_weigh_10 : decode cX0_weigh 10 = .ok (.istore_n 3, 1) := by decide +kernel
theorem dX0_weigh_11 : decode cX0_weigh 11 = .ok (.iload_n 3, 1) := by decide +kernel
theorem dX0_weigh_12 : decode cX0_weigh 12 = .ok (.istore 4, 2) := by decide +kernel
theorem dX0_weigh_14 : decode cX0_weigh 14 = .ok (.iconst 0, 1) := by decide +kernel
theorem dX0_weigh_15 : decode cX0_weigh 15 = .ok (.istore 5, 2) := by decide +kernel
theorem dX0_weigh_17 : decode cX0_weigh 17 = .ok (.iload 5, 2) := by decide +kernel
theorem dX0_weigh_19 : decode cX0_weigh 19 = .ok (.bipush 8, 2) := by decide +kernel
theorem dX0_weigh_21 : decode cX0_weigh 21 = .ok (.if_icmp .ge 103, 3) := by decide +kernel
theorem dX0_weigh_24 : decode cX0_weigh 24 = .ok (.iload_n 1, 1) := by decide +kernel
theorem dX0_weigh_25 : decode cX0_weigh 25 = .ok (.iload 5, 2) := by decide +kernel
theorem dX0_weigh_27 : decode cX0_weigh 27 = .ok (.invokestatic 35, 3) := by decide +kernel
theorem dX0_weigh_30 : decode cX0_weigh 30 = .ok (.ifCond .eq 88, 3) := by decide +kernel
theorem dX0_weigh_33 : decode cX0_weigh 33 = .ok (.iload_n 1, 1) := by decide +kernel
theorem dX0_weigh_34 : decode cX0_weigh 34 = .ok (.iconst 1, 1) := by decide +kernel
theorem dX0_weigh_35 : decode cX0_weigh 35 = .ok (.iload 5, 2) := by decide +kernel
theorem dX0_weigh_37 : decode cX0_weigh 37 = .ok (.ishl, 1) := by decide +kernel
theorem dX0_weigh_38 : decode cX0_weigh 38 = .ok (.ixor, 1) := by decide +kernel
theorem dX0_weigh_39 : decode cX0_weigh 39 = .ok (.iload 5, 2) := by decide +kernel
theorem dX0_weigh_41 : decode cX0_weigh 41 = .ok (.invokestatic 69, 3) := by decide +kernel
theorem dX0_weigh_44 : decode cX0_weigh 44 = .ok (.istore 6, 2) := by decide +kernel
theorem dX0_weigh_46 : decode cX0_weigh 46 = .ok (.aload_n 0, 1) := by decide +kernel
theorem dX0_weigh_47 : decode cX0_weigh 47 = .ok (.getfield 15, 3) := by decide +kernel
theorem dX0_weigh_50 : decode cX0_weigh 50 = .ok (.iload_n 2, 1) := by decide +kernel
theorem dX0_weigh_51 : decode cX0_weigh 51 = .ok (.iload 5, 2) := by decide +kernel
theorem dX0_weigh_53 : decode cX0_weigh 53 = .ok (.invokestatic 55, 3) := by decide +kernel
theorem dX0_weigh_56 : decode cX0_weigh 56 = .ok (.iaload, 1) := by decide +kernel
theorem dX0_weigh_57 : decode cX0_weigh 57 = .ok (.istore 7, 2) := by decide +kernel
theorem dX0_weigh_59 : decode cX0_weigh 59 = .ok (.aload_n 0, 1) := by decide +kernel
theorem dX0_weigh_60 : decode cX0_weigh 60 = .ok (.getfield 15, 3) := by decide +kernel
theorem dX0_weigh_63 : decode cX0_weigh 63 = .ok (.bipush 9, 2) := by decide +kernel
theorem dX0_weigh_65 : decode cX0_weigh 65 = .ok (.iload 5, 2) := by decide +kernel
theorem dX0_weigh_67 : decode cX0_weigh 67 = .ok (.invokestatic 55, 3) := by decide +kernel
theorem dX0_weigh_70 : decode cX0_weigh 70 = .ok (.iaload, 1) := by decide +kernel
theorem dX0_weigh_71 : decode cX0_weigh 71 = .ok (.istore 8, 2) := by decide +kernel
theorem dX0_weigh_73 : decode cX0_weigh 73 = .ok (.iload 4, 2) := by decide +kernel
theorem dX0_weigh_75 : decode cX0_weigh 75 = .ok (.iload 7, 2) := by decide +kernel
theorem dX0_weigh_77 : decode cX0_weigh 77 = .ok (.aload_n 0, 1) := by decide +kernel
theorem dX0_weigh_78 : decode cX0_weigh 78 = .ok (.getfield 21, 3) := by decide +kernel
theorem dX0_weigh_81 : decode cX0_weigh 81 = .ok (.iload 6, 2) := by decide +kernel
theorem dX0_weigh_83 : decode cX0_weigh 83 = .ok (.iaload, 1) := by decide +kernel
theorem dX0_weigh_84 : decode cX0_weigh 84 = .ok (.iadd, 1) := by decide +kernel
theorem dX0_weigh_85 : decode cX0_weigh 85 = .ok (.invokestatic 72, 3) := by decide +kernel
theorem dX0_weigh_88 : decode cX0_weigh 88 = .ok (.istore 4, 2) := by decide +kernel
theorem dX0_weigh_90 : decode cX0_weigh 90 = .ok (.iload_n 3, 1) := by decide +kernel
theorem dX0_weigh_91 : decode cX0_weigh 91 = .ok (.iload 7, 2) := by decide +kernel
theorem dX0_weigh_93 : decode cX0_weigh 93 = .ok (.aload_n 0, 1) := by decide +kernel
theorem dX0_weigh_94 : decode cX0_weigh 94 = .ok (.getfield 18, 3) := by decide +kernel
theorem dX0_weigh_97 : decode cX0_weigh 97 = .ok (.iload 6, 2) := by decide +kernel
theorem dX0_weigh_99 : decode cX0_weigh 99 = .ok (.iaload, 1) := by decide +kernel
theorem dX0_weigh_100 : decode cX0_weigh 100 = .ok (.iadd, 1) := by decide +kernel
theorem dX0_weigh_101 : decode cX0_weigh 101 = .ok (.iload 8, 2) := by decide +kernel
theorem dX0_weigh_103 : decode cX0_weigh 103 = .ok (.aload_n 0, 1) := by decide +kernel
theorem dX0_weigh_104 : decode cX0_weigh 104 = .ok (.getfield 21, 3) := by decide +kernel
theorem dX0_weigh_107 : decode cX0_weigh 107 = .ok (.iload 6, 2) := by decide +kernel
theorem dX0_weigh_109 : decode cX0_weigh 109 = .ok (.iaload, 1) := by decide +kernel
theorem dX0_weigh_110 : decode cX0_weigh 110 = .ok (.iadd, 1) := by decide +kernel
theorem dX0_weigh_111 : decode cX0_weigh 111 = .ok (.invokestatic 72, 3) := by decide +kernel
theorem dX0_weigh_114 : decode cX0_weigh 114 = .ok (.invokestatic 72, 3) := by decide +kernel
theorem dX0_weigh_117 : decode cX0_weigh 117 = .ok (.istore_n 3, 1) := by decide +kernel
theorem dX0_weigh_118 : decode cX0_weigh 118 = .ok (.iinc 5 1, 3) := by decide +kernel
theorem dX0_weigh_121 : decode cX0_weigh 121 = .ok (.goto (-104), 3) := by decide +kernel
theorem dX0_weigh_124 : decode cX0_weigh 124 = .ok (.aload_n 0, 1) := by decide +kernel
theorem dX0_weigh_125 : decode cX0_weigh 125 = .ok (.getfield 18, 3) := by decide +kernel
theorem dX0_weigh_128 : decode cX0_weigh 128 = .ok (.iload_n 1, 1) := by decide +kernel
theorem dX0_weigh_129 : decode cX0_weigh 129 = .ok (.iload_n 2, 1) := by decide +kernel
theorem dX0_weigh_130 : decode cX0_weigh 130 = .ok (.invokestatic 69, 3) := by decide +kernel
theorem dX0_weigh_133 : decode cX0_weigh 133 = .ok (.iload_n 3, 1) := by decide +kernel
theorem dX0_weigh_134 : decode cX0_weigh 134 = .ok (.iastore, 1) := by decide +kernel
theorem dX0_weigh_135 : decode cX0_weigh 135 = .ok (.aload_n 0, 1) := by decide +kernel
theorem dX0_weigh_136 : decode cX0_weigh 136 = .ok (.getfield 21, 3) := by decide +kernel
theorem dX0_weigh_139 : decode cX0_weigh 139 = .ok (.iload_n 1, 1) := by decide +kernel
theorem dX0_weigh_140 : decode cX0_weigh 140 = .ok (.iload_n 2, 1) := by decide +kernel
theorem dX0_weigh_141 : decode cX0_weigh 141 = .ok (.invokestatic 69, 3) := by decide +kernel
theorem dX0_weigh_144 : decode cX0_weigh 144 = .ok (.iload 4, 2) := by decide +kernel
theorem dX0_weigh_146 : decode cX0_weigh 146 = .ok (.iastore, 1) := by decide +kernel
theorem dX0_weigh_147 : decode cX0_weigh 147 = .ok (.return_, 1) := by decide +kernel
theorem bX0_weigh_0 {G : GX} {h : mH} {Q : mO → mH → Prop} {v1 : Int32} {v2 : Int32} (hi : Iv h) (K : (¬ v1 = 0 → Vw G jX0_weigh 17 [some (.ref 75), some (.int v1), some (.int v2), some (.int 1000000), some (.int 1000000), some (.int 0), none, none, none] [] h Q) ∧ (v1 = 0 → Vw G jX0_weigh 17 [some (.ref 75), some (.int v1), some (.int v2), some (.int 0), some (.int 0), some (.int 0), none, none, none] [] h Q)) : Vw G jX0_weigh 0 [some (.ref 75), some (.int v1), some (.int v2), none, none, none, none, none, none] [] h Q :=
  s_iload_n dX0_weigh_0 rfl (s_if_ne 8 dX0_weigh_1 rfl (fun q1 => s_ldc dX0_weigh_8 w_1288 (s_istore_n dX0_weigh_10 (Nat.le_of_ble_eq_true rfl) rfl (s_iload_n dX0_weigh_11 rfl (s_istore dX0_weigh_12 (Nat.le_of_ble_eq_true rfl) rfl (s_iconst 0 dX0_weigh_14 (by decide) (s_istore dX0_weigh_15 (Nat.le_of_ble_eq_true rfl) rfl ((K.1 q1)))))))) (fun q1 => s_iconst 0 dX0_weigh_4 (by decide) (s_goto 10 dX0_weigh_5 rfl (s_istore_n dX0_weigh_10 (Nat.le_of_ble_eq_true rfl) rfl (s_iload_n dX0_weigh_11 rfl (s_istore dX0_weigh_12 (Nat.le_of_ble_eq_true rfl) rfl (s_iconst 0 dX0_weigh_14 (by decide) (s_istore dX0_weigh_15 (Nat.le_of_ble_eq_true rfl) rfl ((K.2 q1))))))))))
theorem bX0_weigh_17 {G : GX} {h : mH} {Q : mO → mH → Prop} {v1 : Int32} {v2 : Int32} {v3 : Int32} {v4 : Int32} {v5 : Int32} (hi : Iv h) (K : (8 ≤ v5 → (vp_in (fX0_stateOf v1 v2) 2048 ∧ (vp_in (fX0_stateOf v1 v2) 2048 ∧ Q (.inl none) (pI (pI h 78 (Int32.toNatClampNeg (fX0_stateOf v1 v2)) v3) 79 (Int32.toNatClampNeg (fX0_stateOf v1 v2)) v4)))) ∧ (¬ 8 ≤ v5 → (((fX0_has v1 v5) = 0 → Vw G jX0_weigh 118 [some (.ref 75), some (.int v1), some (.int v2), some (.int v3), some (.int v4), some (.int v5), none, none, none] [] h Q) ∧ (¬ (fX0_has v1 v5) = 0 → (vp_in (fX0_apartOf v2 v5) 80 ∧ (vp_in (fX0_apartOf 9 v5) 80 ∧ (vp_in (fX0_stateOf (v1 ^^^ ((1 : Int32) <<< (v5 &&& 31))) v5) 2048 ∧ (vp_in (fX0_stateOf (v1 ^^^ ((1 : Int32) <<< (v5 &&& 31))) v5) 2048 ∧ (vp_in (fX0_stateOf (v1 ^^^ ((1 : Int32) <<< (v5 &&& 31))) v5) 2048 ∧ Vw G jX0_weigh 118 [some (.ref 75), some (.int v1), some (.int v2), some (.int (fJ9_min_7cf53 v3 (fJ9_min_7cf53 ((gI h 77 (Int32.toNatClampNeg (fX0_apartOf v2 v5))) + (gI h 78 (Int32.toNatClampNeg (fX0_stateOf (v1 ^^^ ((1 : Int32) <<< (v5 &&& 31))) v5)))) ((gI h 77 (Int32.toNatClampNeg (fX0_apartOf 9 v5))) + (gI h 79 (Int32.toNatClampNeg (fX0_stateOf (v1 ^^^ ((1 : Int32) <<< (v5 &&& 31))) v5))))))), some (.int (fJ9_min_7cf53 v4 ((gI h 77 (Int32.toNatClampNeg (fX0_apartOf v2 v5))) + (gI h 79 (Int32.toNatClampNeg (fX0_stateOf (v1 ^^^ ((1 : Int32) <<< (v5 &&& 31))) v5)))))), some (.int v5), none, none, none] [] h Q))))))))) : Vw G jX0_weigh 17 [some (.ref 75), some (.int v1), some (.int v2), some (.int v3), some (.int v4), some (.int v5), none, none, none] [] h Q :=
  s_iload dX0_weigh_17 rfl (s_bipush 8 dX0_weigh_19 (by decide) (s_icmp_ge 124 dX0_weigh_21 rfl (fun q2 => s_aload_n dX0_weigh_124 rfl (s_getR (v := .ref 78) dX0_weigh_125 flX0_18 rfl (hi.sh rfl rfl) (hi.rf (o := 75) (k := 4) (d := 3) rfl rfl) (s_iload_n dX0_weigh_128 rfl (s_iload_n dX0_weigh_129 rfl (s_callS (As := [.int v1, .int v2]) dX0_weigh_130 rfl lsX0_69 ⟨Nat.le_of_ble_eq_true rfl, Nat.le_of_ble_eq_true rfl⟩ rfl (Nat.le_of_ble_eq_true rfl) (mX0_stateOf   (s_iload_n dX0_weigh_133 rfl (s_iastore dX0_weigh_134 (hi.sh rfl rfl) (K.1 q2).1 (s_aload_n dX0_weigh_135 rfl (s_getR (v := .ref 79) dX0_weigh_136 flX0_21 rfl (hi.sh rfl rfl) (hi.rf (o := 75) (k := 5) (d := 4) rfl rfl) (s_iload_n dX0_weigh_139 rfl (s_iload_n dX0_weigh_140 rfl (s_callS (As := [.int v1, .int v2]) dX0_weigh_141 rfl lsX0_69 ⟨Nat.le_of_ble_eq_true rfl, Nat.le_of_ble_eq_true rfl⟩ rfl (Nat.le_of_ble_eq_true rfl) (mX0_stateOf   (s_iload dX0_weigh_144 rfl (s_iastore dX0_weigh_146 (hi.sh rfl rfl) (K.1 q2).2.1 (s_return dX0_weigh_147 rfl (K.1 q2).2.2))))))))))))))))) (fun q2 => s_iload_n dX0_weigh_24 rfl (s_iload dX0_weigh_25 rfl (s_callS (As := [.int v1, .int v5]) dX0_weigh_27 rfl lsX0_35 ⟨Nat.le_of_ble_eq_true rfl, Nat.le_of_ble_eq_true rfl⟩ rfl (Nat.le_of_ble_eq_true rfl) (mX0_has   (s_if_eq 118 dX0_weigh_30 rfl (fun q6 => ((K.2 q2).1 q6)) (fun q6 => s_iload_n dX0_weigh_33 rfl (s_iconst 1 dX0_weigh_34 (by decide) (s_iload dX0_weigh_35 rfl (s_ishl dX0_weigh_37 (s_ixor dX0_weigh_38 (s_iload dX0_weigh_39 rfl (s_callS (As := [.int (v1 ^^^ ((1 : Int32) <<< (v5 &&& 31))), .int v5]) dX0_weigh_41 rfl lsX0_69 ⟨Nat.le_of_ble_eq_true rfl, Nat.le_of_ble_eq_true rfl⟩ rfl (Nat.le_of_ble_eq_true rfl) (mX0_stateOf   (s_istore dX0_weigh_44 (Nat.le_of_ble_eq_true rfl) rfl (s_aload_n dX0_weigh_46 rfl (s_getR (v := .ref 77) dX0_weigh_47 flX0_15 rfl (hi.sh rfl rfl) (hi.rf (o := 75) (k := 3) (d := 2) rfl rfl) (s_iload_n dX0_weigh_50 rfl (s_iload dX0_weigh_51 rfl (s_callS (As := [.int v2, .int v5]) dX0_weigh_53 rfl lsX0_55 ⟨Nat.le_of_ble_eq_true rfl, Nat.le_of_ble_eq_true rfl⟩ rfl (Nat.le_of_ble_eq_true rfl) (mX0_apartOf   (s_iaload dX0_weigh_56 (hi.sh rfl rfl) ((K.2 q2).2 q6).1 (s_istore dX0_weigh_57 (Nat.le_of_ble_eq_true rfl) rfl (s_aload_n dX0_weigh_59 rfl (s_getR (v := .ref 77) dX0_weigh_60 flX0_15 rfl (hi.sh rfl rfl) (hi.rf (o := 75) (k := 3) (d := 2) rfl rfl) (s_bipush 9 dX0_weigh_63 (by decide) (s_iload dX0_weigh_65 rfl (s_callS (As := [.int 9, .int v5]) dX0_weigh_67 rfl lsX0_55 ⟨Nat.le_of_ble_eq_true rfl, Nat.le_of_ble_eq_true rfl⟩ rfl (Nat.le_of_ble_eq_true rfl) (mX0_apartOf   (s_iaload dX0_weigh_70 (hi.sh rfl rfl) ((K.2 q2).2 q6).2.1 (s_istore dX0_weigh_71 (Nat.le_of_ble_eq_true rfl) rfl (s_iload dX0_weigh_73 rfl (s_iload dX0_weigh_75 rfl (s_aload_n dX0_weigh_77 rfl (s_getR (v := .ref 79) dX0_weigh_78 flX0_21 rfl (hi.sh rfl rfl) (hi.rf (o := 75) (k := 5) (d := 4) rfl rfl) (s_iload dX0_weigh_81 rfl (s_iaload dX0_weigh_83 (hi.sh rfl rfl) ((K.2 q2).2 q6).2.2.1 (s_iadd dX0_weigh_84 (s_callS (As := [.int v4, .int ((gI h 77 (Int32.toNatClampNeg (fX0_apartOf v2 v5))) + (gI h 79 (Int32.toNatClampNeg (fX0_stateOf (v1 ^^^ ((1 : Int32) <<< (v5 &&& 31))) v5))))]) dX0_weigh_85 rfl lsX0_72 ⟨Nat.le_of_ble_eq_true rfl, Nat.le_of_ble_eq_true rfl⟩ rfl (Nat.le_of_ble_eq_true rfl) (mJ9_min_7cf53   (s_istore dX0_weigh_88 (Nat.le_of_ble_eq_true rfl) rfl (s_iload_n dX0_weigh_90 rfl (s_iload dX0_weigh_91 rfl (s_aload_n dX0_weigh_93 rfl (s_getR (v := .ref 78) dX0_weigh_94 flX0_18 rfl (hi.sh rfl rfl) (hi.rf (o := 75) (k := 4) (d := 3) rfl rfl) (s_iload dX0_weigh_97 rfl (s_iaload dX0_weigh_99 (hi.sh rfl rfl) ((K.2 q2).2 q6).2.2.2.1 (s_iadd dX0_weigh_100 (s_iload dX0_weigh_101 rfl (s_aload_n dX0_weigh_103 rfl (s_getR (v := .ref 79) dX0_weigh_104 flX0_21 rfl (hi.sh rfl rfl) (hi.rf (o := 75) (k := 5) (d := 4) rfl rfl) (s_iload dX0_weigh_107 rfl (s_iaload dX0_weigh_109 (hi.sh rfl rfl) ((K.2 q2).2 q6).2.2.2.2.1 (s_iadd dX0_weigh_110 (s_callS (As := [.int ((gI h 77 (Int32.toNatClampNeg (fX0_apartOf v2 v5))) + (gI h 78 (Int32.toNatClampNeg (fX0_stateOf (v1 ^^^ ((1 : Int32) <<< (v5 &&& 31))) v5)))), .int ((gI h 77 (Int32.toNatClampNeg (fX0_apartOf 9 v5))) + (gI h 79 (Int32.toNatClampNeg (fX0_stateOf (v1 ^^^ ((1 : Int32) <<< (v5 &&& 31))) v5))))]) dX0_weigh_111 rfl lsX0_72 ⟨Nat.le_of_ble_eq_true rfl, Nat.le_of_ble_eq_true rfl⟩ rfl (Nat.le_of_ble_eq_true rfl) (mJ9_min_7cf53   (s_callS (As := [.int v3, .int (fJ9_min_7cf53 ((gI h 77 (Int32.toNatClampNeg (fX0_apartOf v2 v5))) + (gI h 78 (Int32.toNatClampNeg (fX0_stateOf (v1 ^^^ ((1 : Int32) <<< (v5 &&& 31))) v5)))) ((gI h 77 (Int32.toNatClampNeg (fX0_apartOf 9 v5))) + (gI h 79 (Int32.toNatClampNeg (fX0_stateOf (v1 ^^^ ((1 : Int32) <<< (v5 &&& 31))) v5)))))]) dX0_weigh_114 rfl lsX0_72 ⟨Nat.le_of_ble_eq_true rfl, Nat.le_of_ble_eq_true rfl⟩ rfl (Nat.le_of_ble_eq_true rfl) (mJ9_min_7cf53   (s_istore_n dX0_weigh_117 (Nat.le_of_ble_eq_true rfl) rfl (Vw.mask [true, true, true, true, true, true, false, false, false] (((K.2 q2).2 q6).2.2.2.2.2))))))))))))))))))))))))))))))))))))))))))))))))))))))))))))))
theorem bX0_weigh_118 {G : GX} {h : mH} {Q : mO → mH → Prop} {v1 : Int32} {v2 : Int32} {v3 : Int32} {v4 : Int32} {v5 : Int32} (hi : Iv h) (K : Vw G jX0_weigh 17 [some (.ref 75), some (.int v1), some (.int v2), some (.int v3), some (.int v4), some (.int (v5 + 1)), none, none, none] [] h Q) : Vw G jX0_weigh 118 [some (.ref 75), some (.int v1), some (.int v2), some (.int v3), some (.int v4), some (.int v5), none, none, none] [] h Q :=
  s_iinc 1 dX0_weigh_118 rfl (by decide) (Nat.le_of_ble_eq_true rfl) rfl (s_goto 17 dX0_weigh_121 rfl (K))
theorem eX0_weigh {G : GX} {h : mH} {Q : mO → mH → Prop} {v1 : Int32} {v2 : Int32} (hi : Iv h) (K : (¬ v1 = 0 → Vw G jX0_weigh 17 [some (.ref 75), some (.int v1), some (.int v2), some (.int 1000000), some (.int 1000000), some (.int 0), none, none, none] [] h Q) ∧ (v1 = 0 → Vw G jX0_weigh 17 [some (.ref 75), some (.int v1), some (.int v2), some (.int 0), some (.int 0), some (.int 0), none, none, none] [] h Q)) : WM G jX0_weigh [.ref 75, .int v1, .int v2] h Q :=
  WM.body (ls := [some (.ref 75), some (.int v1), some (.int v2), none, none, none, none, none, none]) rfl (by decide +kernel) rfl (Nat.le_of_ble_eq_true rfl) rfl ((bX0_weigh_0 hi  K))
theorem dX0_withTea_0 : decode cX0_withTea 0 = .ok (.iload_n 1, 1) := by decide +kernel
theorem dX0_withTea_1 : decode cX0_withTea 1 = .ok (.bipush 8, 2) := by decide +kernel
theorem dX0_withTea_3 : decode cX0_withTea 3 = .ok (.if_icmp .ne 8, 3) := by decide +kernel
theorem dX0_withTea_6 : decode cX0_withTea 6 = .ok (.ldc 68, 2) := by decide +kernel
theorem dX0_withTea_8 : decode cX0_withTea 8 = .ok (.goto 16, 3) := by decide +kernel
theorem dX0_withTea_11 : decode cX0_withTea 11 = .ok (.iload_n 3, 1) := by decide +kernel
theorem dX0_withTea_12 : decode cX0_withTea 12 = .ok (.aload_n 0, 1) := by decide +kernel
theorem dX0_withTea_13 : decode cX0_withTea 13 = .ok (.getfield 15, 3) := by decide +kernel
theorem dX0_withTea_16 : decode cX0_withTea 16 = .ok (.bipush 9, 2) := by decide +kernel
theorem dX0_withTea_18 : decode cX0_withTea 18 = .ok (.iload_n 2, 1) := by decide +kernel
theorem dX0_withTea_19 : decode cX0_withTea 19 = .ok (.invokestatic 55, 3) := by decide +kernel
theorem dX0_withTea_22 : decode cX0_withTea 22 = .ok (.iaload, 1) := by decide +kernel
theorem dX0_withTea_23 : decode cX0_withTea 23 = .ok (.iadd, 1) := by decide +kernel
theorem dX0_withTea_24 : decode cX0_withTea 24 = .ok (.istore 5, 2) := by decide +kernel
theorem dX0_withTea_26 : decode cX0_withTea 26 = .ok (.iload 4, 2) := by decide +kernel
theorem dX0_withTea_28 : decode cX0_withTea 28 = .ok (.aload_n 0, 1) := by decide +kernel
theorem dX0_withTea_29 : decode cX0_withTea 29 = .ok (.getfield 15, 3) := by decide +kernel
theorem dX0_withTea_32 : decode cX0_withTea 32 = .ok (.iload_n 1, 1) := by decide +kernel
theorem dX0_withTea_33 : decode cX0_withTea 33 = .ok (.iload_n 2, 1) := by decide +kernel
theorem dX0_withTea_34 : decode cX0_withTea 34 = .ok (.invokestatic 55, 3) := by decide +kernel
theorem dX0_withTea_37 : decode cX0_withTea 37 = .ok (.iaload, 1) := by decide +kernel
theorem dX0_withTea_38 : decode cX0_withTea 38 = .ok (.iadd, 1) := by decide +kernel
theorem dX0_withTea_39 : decode cX0_withTea 39 = .ok (.iload 5, 2) := by decide +kernel
theorem dX0_withTea_41 : decode cX0_withTea 41 = .ok (.invokestatic 72, 3) := by decide +kernel
theorem dX0_withTea_44 : decode cX0_withTea 44 = .ok (.ireturn, 1) := by decide +kernel
theorem bX0_withTea_0 {G : GX} {h : mH} {Q : mO → mH → Prop} {v1 : Int32} {v2 : Int32} {v3 : Int32} {v4 : Int32} (hi : Iv h) (K : (¬ v1 = 8 → (vp_in (fX0_apartOf 9 v2) 80 ∧ (vp_in (fX0_apartOf v1 v2) 80 ∧ Q (.inl (some (.int (fJ9_min_7cf53 (v4 + (gI h 77 (Int32.toNatClampNeg (fX0_apartOf v1 v2)))) (v3 + (gI h 77 (Int32.toNatClampNeg (fX0_apartOf 9 v2)))))))) h))) ∧ (v1 = 8 → (vp_in (fX0_apartOf v1 v2) 80 ∧ Q (.inl (some (.int (fJ9_min_7cf53 (v4 + (gI h 77 (Int32.toNatClampNeg (fX0_apartOf v1 v2)))) 1000000)))) h))) : Vw G jX0_withTea 0 [some (.ref 75), some (.int v1), some (.int v2), some (.int v3), some (.int v4), none] [] h Q :=
  s_iload_n dX0_withTea_0 rfl (s_bipush 8 dX0_withTea_1 (by decide) (s_icmp_ne 11 dX0_withTea_3 rfl (fun q2 => s_iload_n dX0_withTea_11 rfl (s_aload_n dX0_withTea_12 rfl (s_getR (v := .ref 77) dX0_withTea_13 flX0_15 rfl (hi.sh rfl rfl) (hi.rf (o := 75) (k := 3) (d := 2) rfl rfl) (s_bipush 9 dX0_withTea_16 (by decide) (s_iload_n dX0_withTea_18 rfl (s_callS (As := [.int 9, .int v2]) dX0_withTea_19 rfl lsX0_55 ⟨Nat.le_of_ble_eq_true rfl, Nat.le_of_ble_eq_true rfl⟩ rfl (Nat.le_of_ble_eq_true rfl) (mX0_apartOf   (s_iaload dX0_withTea_22 (hi.sh rfl rfl) (K.1 q2).1 (s_iadd dX0_withTea_23 (s_istore dX0_withTea_24 (Nat.le_of_ble_eq_true rfl) rfl (s_iload dX0_withTea_26 rfl (s_aload_n dX0_withTea_28 rfl (s_getR (v := .ref 77) dX0_withTea_29 flX0_15 rfl (hi.sh rfl rfl) (hi.rf (o := 75) (k := 3) (d := 2) rfl rfl) (s_iload_n dX0_withTea_32 rfl (s_iload_n dX0_withTea_33 rfl (s_callS (As := [.int v1, .int v2]) dX0_withTea_34 rfl lsX0_55 ⟨Nat.le_of_ble_eq_true rfl, Nat.le_of_ble_eq_true rfl⟩ rfl (Nat.le_of_ble_eq_true rfl) (mX0_apartOf   (s_iaload dX0_withTea_37 (hi.sh rfl rfl) (K.1 q2).2.1 (s_iadd dX0_withTea_38 (s_iload dX0_withTea_39 rfl (s_callS (As := [.int (v4 + (gI h 77 (Int32.toNatClampNeg (fX0_apartOf v1 v2)))), .int (v3 + (gI h 77 (Int32.toNatClampNeg (fX0_apartOf 9 v2))))]) dX0_withTea_41 rfl lsX0_72 ⟨Nat.le_of_ble_eq_true rfl, Nat.le_of_ble_eq_true rfl⟩ rfl (Nat.le_of_ble_eq_true rfl) (mJ9_min_7cf53   (s_ireturn dX0_withTea_44 rfl (K.1 q2).2.2))))))))))))))))))))))) (fun q2 => s_ldc dX0_withTea_6 w_1288 (s_goto 24 dX0_withTea_8 rfl (s_istore dX0_withTea_24 (Nat.le_of_ble_eq_true rfl) rfl (s_iload dX0_withTea_26 rfl (s_aload_n dX0_withTea_28 rfl (s_getR (v := .ref 77) dX0_withTea_29 flX0_15 rfl (hi.sh rfl rfl) (hi.rf (o := 75) (k := 3) (d := 2) rfl rfl) (s_iload_n dX0_withTea_32 rfl (s_iload_n dX0_withTea_33 rfl (s_callS (As := [.int v1, .int v2]) dX0_withTea_34 rfl lsX0_55 ⟨Nat.le_of_ble_eq_true rfl, Nat.le_of_ble_eq_true rfl⟩ rfl (Nat.le_of_ble_eq_true rfl) (mX0_apartOf   (s_iaload dX0_withTea_37 (hi.sh rfl rfl) (K.2 q2).1 (s_iadd dX0_withTea_38 (s_iload dX0_withTea_39 rfl (s_callS (As := [.int (v4 + (gI h 77 (Int32.toNatClampNeg (fX0_apartOf v1 v2)))), .int 1000000]) dX0_withTea_41 rfl lsX0_72 ⟨Nat.le_of_ble_eq_true rfl, Nat.le_of_ble_eq_true rfl⟩ rfl (Nat.le_of_ble_eq_true rfl) (mJ9_min_7cf53   (s_ireturn dX0_withTea_44 rfl (K.2 q2).2))))))))))))))))))
theorem eX0_withTea {G : GX} {h : mH} {Q : mO → mH → Prop} {v1 : Int32} {v2 : Int32} {v3 : Int32} {v4 : Int32} (hi : Iv h) (K : (¬ v1 = 8 → (vp_in (fX0_apartOf 9 v2) 80 ∧ (vp_in (fX0_apartOf v1 v2) 80 ∧ Q (.inl (some (.int (fJ9_min_7cf53 (v4 + (gI h 77 (Int32.toNatClampNeg (fX0_apartOf v1 v2)))) (v3 + (gI h 77 (Int32.toNatClampNeg (fX0_apartOf 9 v2)))))))) h))) ∧ (v1 = 8 → (vp_in (fX0_apartOf v1 v2) 80 ∧ Q (.inl (some (.int (fJ9_min_7cf53 (v4 + (gI h 77 (Int32.toNatClampNeg (fX0_apartOf v1 v2)))) 1000000)))) h))) : WM G jX0_withTea [.ref 75, .int v1, .int v2, .int v3, .int v4] h Q :=
  WM.body (ls := [some (.ref 75), some (.int v1), some (.int v2), some (.int v3), some (.int v4), none]) rfl (by decide +kernel) rfl (Nat.le_of_ble_eq_true rfl) rfl ((bX0_withTea_0 hi  K))
theorem dX0_through_0 : decode cX0_through 0 = .ok (.iload_n 1, 1) := by decide +kernel
theorem dX0_through_1 : decode cX0_through 1 = .ok (.iconst 1, 1) := by decide +kernel
theorem dX0_through_2 : decode cX0_through 2 = .ok (.iload_n 3, 1) := by decide +kernel
theorem dX0_through_3 : decode cX0_through 3 = .ok (.ishl, 1) := by decide +kernel
theorem dX0_through_4 : decode cX0_through 4 = .ok (.ixor, 1) := by decide +kernel
theorem dX0_through_5 : decode cX0_through 5 = .ok (.iload_n 3, 1) := by decide +kernel
theorem dX0_through_6 : decode cX0_through 6 = .ok (.invokestatic 69, 3) := by decide +kernel
theorem dX0_through_9 : decode cX0_through 9 = .ok (.istore 6, 2) := by decide +kernel
theorem dX0_through_11 : decode cX0_through 11 = .ok (.iload 4, 2) := by decide +kernel
theorem dX0_through_13 : decode cX0_through 13 = .ok (.aload_n 0, 1) := by decide +kernel
theorem dX0_through_14 : decode cX0_through 14 = .ok (.getfield 15, 3) := by decide +kernel
theorem dX0_through_17 : decode cX0_through 17 = .ok (.iload_n 2, 1) := by decide +kernel
theorem dX0_through_18 : decode cX0_through 18 = .ok (.iload_n 3, 1) := by decide +kernel
theorem dX0_through_19 : decode cX0_through 19 = .ok (.invokestatic 55, 3) := by decide +kernel
theorem dX0_through_22 : decode cX0_through 22 = .ok (.iaload, 1) := by decide +kernel
theorem dX0_through_23 : decode cX0_through 23 = .ok (.iadd, 1) := by decide +kernel
theorem dX0_through_24 : decode cX0_through 24 = .ok (.aload_n 0, 1) := by decide +kernel
theorem dX0_through_25 : decode cX0_through 25 = .ok (.getfield 18, 3) := by decide +kernel
theorem dX0_through_28 : decode cX0_through 28 = .ok (.iload 6, 2) := by decide +kernel
theorem dX0_through_30 : decode cX0_through 30 = .ok (.iaload, 1) := by decide +kernel
theorem dX0_through_31 : decode cX0_through 31 = .ok (.iadd, 1) := by decide +kernel
theorem dX0_through_32 : decode cX0_through 32 = .ok (.istore 7, 2) := by decide +kernel
theorem dX0_through_34 : decode cX0_through 34 = .ok (.iload 7, 2) := by decide +kernel
theorem dX0_through_36 : decode cX0_through 36 = .ok (.aload_n 0, 1) := by decide +kernel
theorem dX0_through_37 : decode cX0_through 37 = .ok (.iload_n 2, 1) := by decide +kernel
theorem dX0_through_38 : decode cX0_through 38 = .ok (.iload_n 3, 1) := by decide +kernel
theorem dX0_through_39 : decode cX0_through 39 = .ok (.iload 4, 2) := by decide +kernel
theorem dX0_through_41 : decode cX0_through 41 = .ok (.iload 5, 2) := by decide +kernel
theorem dX0_through_43 : decode cX0_through 43 = .ok (.invokevirtual 79, 3) := by decide +kernel
theorem dX0_through_46 : decode cX0_through 46 = .ok (.aload_n 0, 1) := by decide +kernel
theorem dX0_through_47 : decode cX0_through 47 = .ok (.getfield 21, 3) := by decide +kernel
theorem dX0_through_50 : decode cX0_through 50 = .ok (.iload 6, 2) := by decide +kernel
theorem dX0_through_52 : decode cX0_through 52 = .ok (.iaload, 1) := by decide +kernel
theorem dX0_through_53 : decode cX0_through 53 = .ok (.iadd, 1) := by decide +kernel
theorem dX0_through_54 : decode cX0_through 54 = .ok (.invokestatic 72, 3) := by decide +kernel
theorem dX0_through_57 : decode cX0_through 57 = .ok (.ireturn, 1) := by decide +kernel
theorem bX0_through_0 {G : GX} {h : mH} {Q : mO → mH → Prop} {v1 : Int32} {v2 : Int32} {v3 : Int32} {v4 : Int32} {v5 : Int32} (hi : Iv h) (K : vp_in (fX0_apartOf v2 v3) 80 ∧ (vp_in (fX0_stateOf (v1 ^^^ ((1 : Int32) <<< (v3 &&& 31))) v3) 2048 ∧ WM G jX0_withTea [.ref 75, .int v2, .int v3, .int v4, .int v5] h (Aft G jX0_through 43 [some (.ref 75), none, none, none, none, none, some (.int (fX0_stateOf (v1 ^^^ ((1 : Int32) <<< (v3 &&& 31))) v3)), none] [.int ((v4 + (gI h 77 (Int32.toNatClampNeg (fX0_apartOf v2 v3)))) + (gI h 78 (Int32.toNatClampNeg (fX0_stateOf (v1 ^^^ ((1 : Int32) <<< (v3 &&& 31))) v3))))] Q))) : Vw G jX0_through 0 [some (.ref 75), some (.int v1), some (.int v2), some (.int v3), some (.int v4), some (.int v5), none, none] [] h Q :=
  s_iload_n dX0_through_0 rfl (s_iconst 1 dX0_through_1 (by decide) (s_iload_n dX0_through_2 rfl (s_ishl dX0_through_3 (s_ixor dX0_through_4 (s_iload_n dX0_through_5 rfl (s_callS (As := [.int (v1 ^^^ ((1 : Int32) <<< (v3 &&& 31))), .int v3]) dX0_through_6 rfl lsX0_69 ⟨Nat.le_of_ble_eq_true rfl, Nat.le_of_ble_eq_true rfl⟩ rfl (Nat.le_of_ble_eq_true rfl) (mX0_stateOf   (s_istore dX0_through_9 (Nat.le_of_ble_eq_true rfl) rfl (s_iload dX0_through_11 rfl (s_aload_n dX0_through_13 rfl (s_getR (v := .ref 77) dX0_through_14 flX0_15 rfl (hi.sh rfl rfl) (hi.rf (o := 75) (k := 3) (d := 2) rfl rfl) (s_iload_n dX0_through_17 rfl (s_iload_n dX0_through_18 rfl (s_callS (As := [.int v2, .int v3]) dX0_through_19 rfl lsX0_55 ⟨Nat.le_of_ble_eq_true rfl, Nat.le_of_ble_eq_true rfl⟩ rfl (Nat.le_of_ble_eq_true rfl) (mX0_apartOf   (s_iaload dX0_through_22 (hi.sh rfl rfl) K.1 (s_iadd dX0_through_23 (s_aload_n dX0_through_24 rfl (s_getR (v := .ref 78) dX0_through_25 flX0_18 rfl (hi.sh rfl rfl) (hi.rf (o := 75) (k := 4) (d := 3) rfl rfl) (s_iload dX0_through_28 rfl (s_iaload dX0_through_30 (hi.sh rfl rfl) K.2.1 (s_iadd dX0_through_31 (s_istore dX0_through_32 (Nat.le_of_ble_eq_true rfl) rfl (s_iload dX0_through_34 rfl (s_aload_n dX0_through_36 rfl (s_iload_n dX0_through_37 rfl (s_iload_n dX0_through_38 rfl (s_iload dX0_through_39 rfl (s_iload dX0_through_41 rfl (Vw.mask [true, false, false, false, false, false, true, false] (s_callV (As := [.int v2, .int v3, .int v4, .int v5]) dX0_through_43 rfl lvX0_79 ⟨Nat.le_of_ble_eq_true rfl, Nat.le_of_ble_eq_true rfl⟩ (hi.sh rfl rfl) ⟨_, _, by decide, rfl⟩ rfl (Nat.le_of_ble_eq_true rfl) (K.2.2))))))))))))))))))))))))))))))))
theorem bX0_through_46 {G : GX} {h : mH} {Q : mO → mH → Prop} {v6 : Int32} {vs0 : Int32} {vs1 : Int32} (hi : Iv h) (K : vp_in v6 2048 ∧ Q (.inl (some (.int (fJ9_min_7cf53 vs1 (vs0 + (gI h 79 (Int32.toNatClampNeg v6))))))) h) : Vw G jX0_through 46 [some (.ref 75), none, none, none, none, none, some (.int v6), none] [.int vs0, .int vs1] h Q :=
  s_aload_n dX0_through_46 rfl (s_getR (v := .ref 79) dX0_through_47 flX0_21 rfl (hi.sh rfl rfl) (hi.rf (o := 75) (k := 5) (d := 4) rfl rfl) (s_iload dX0_through_50 rfl (s_iaload dX0_through_52 (hi.sh rfl rfl) K.1 (s_iadd dX0_through_53 (s_callS (As := [.int vs1, .int (vs0 + (gI h 79 (Int32.toNatClampNeg v6)))]) dX0_through_54 rfl lsX0_72 ⟨Nat.le_of_ble_eq_true rfl, Nat.le_of_ble_eq_true rfl⟩ rfl (Nat.le_of_ble_eq_true rfl) (mJ9_min_7cf53   (s_ireturn dX0_through_57 rfl K.2)))))))
theorem eX0_through {G : GX} {h : mH} {Q : mO → mH → Prop} {v1 : Int32} {v2 : Int32} {v3 : Int32} {v4 : Int32} {v5 : Int32} (hi : Iv h) (K : vp_in (fX0_apartOf v2 v3) 80 ∧ (vp_in (fX0_stateOf (v1 ^^^ ((1 : Int32) <<< (v3 &&& 31))) v3) 2048 ∧ WM G jX0_withTea [.ref 75, .int v2, .int v3, .int v4, .int v5] h (Aft G jX0_through 43 [some (.ref 75), none, none, none, none, none, some (.int (fX0_stateOf (v1 ^^^ ((1 : Int32) <<< (v3 &&& 31))) v3)), none] [.int ((v4 + (gI h 77 (Int32.toNatClampNeg (fX0_apartOf v2 v3)))) + (gI h 78 (Int32.toNatClampNeg (fX0_stateOf (v1 ^^^ ((1 : Int32) <<< (v3 &&& 31))) v3))))] Q))) : WM G jX0_through [.ref 75, .int v1, .int v2, .int v3, .int v4, .int v5] h Q :=
  WM.body (ls := [some (.ref 75), some (.int v1), some (.int v2), some (.int v3), some (.int v4), some (.int v5), none, none]) rfl (by decide +kernel) rfl (Nat.le_of_ble_eq_true rfl) rfl ((bX0_through_0 hi  K))
theorem dX0_costWithTea_0 : decode cX0_costWithTea 0 = .ok (.iconst 0, 1) := by decide +kernel
theorem dX0_costWithTea_1 : decode cX0_costWithTea 1 = .ok (.istore_n 2, 1) := by decide +kernel
theorem dX0_costWithTea_2 : decode cX0_costWithTea 2 = .ok (.bipush 8, 2) := by decide +kernel
theorem dX0_costWithTea_4 : decode cX0_costWithTea 4 = .ok (.istore_n 3, 1) := by decide +kernel
theorem dX0_costWithTea_5 : decode cX0_costWithTea 5 = .ok (.iconst 0, 1) := by decide +kernel
theorem dX0_costWithTea_6 : decode cX0_costWithTea 6 = .ok (.istore 4, 2) := by decide +kernel
theorem dX0_costWithTea_8 : decode cX0_costWithTea 8 = .ok (.iload 4, 2) := by decide +kernel
theorem dX0_costWithTea_10 : decode cX0_costWithTea 10 = .ok (.aload_n 0, 1) := by decide +kernel
theorem dX0_costWithTea_11 : decode cX0_costWithTea 11 = .ok (.getfield 24, 3) := by decide +kernel
theorem dX0_costWithTea_14 : decode cX0_costWithTea 14 = .ok (.if_icmp .ge 47, 3) := by decide +kernel
theorem dX0_costWithTea_17 : decode cX0_costWithTea 17 = .ok (.iload_n 2, 1) := by decide +kernel
theorem dX0_costWithTea_18 : decode cX0_costWithTea 18 = .ok (.aload_n 0, 1) := by decide +kernel
theorem dX0_costWithTea_19 : decode cX0_costWithTea 19 = .ok (.getfield 15, 3) := by decide +kernel
theorem dX0_costWithTea_22 : decode cX0_costWithTea 22 = .ok (.iload 4, 2) := by decide +kernel
theorem dX0_costWithTea_24 : decode cX0_costWithTea 24 = .ok (.iload_n 1, 1) := by decide +kernel
theorem dX0_costWithTea_25 : decode cX0_costWithTea 25 = .ok (.if_icmp .ne 8, 3) := by decide +kernel
theorem dX0_costWithTea_28 : decode cX0_costWithTea 28 = .ok (.bipush 9, 2) := by decide +kernel
theorem dX0_costWithTea_30 : decode cX0_costWithTea 30 = .ok (.goto 4, 3) := by decide +kernel
theorem dX0_costWithTea_33 : decode cX0_costWithTea 33 = .ok (.iload_n 3, 1) := by decide +kernel
theorem dX0_costWithTea_34 : decode cX0_costWithTea 34 = .ok (.aload_n 0, 1) := by decide +kernel
theorem dX0_costWithTea_35 : decode cX0_costWithTea 35 = .ok (.getfield 9, 3) := by decide +kernel
theorem dX0_costWithTea_38 : decode cX0_costWithTea 38 = .ok (.iload 4, 2) := by decide +kernel
theorem dX0_costWithTea_40 : decode cX0_costWithTea 40 = .ok (.iaload, 1) := by decide +kernel
theorem dX0_costWithTea_41 : decode cX0_costWithTea 41 = .ok (.invokestatic 55, 3) := by decide +kernel
theorem dX0_costWithTea_44 : decode cX0_costWithTea 44 = .ok (.iaload, 1) := by decide +kernel
theorem dX0_costWithTea_45 : decode cX0_costWithTea 45 = .ok (.iadd, 1) := by decide +kernel
theorem dX0_costWithTea_46 : decode cX0_costWithTea 46 = .ok (.istore_n 2, 1) := by decide +kernel
theorem dX0_costWithTea_47 : decode cX0_costWithTea 47 = .ok (.aload_n 0, 1) := by decide +kernel
theorem dX0_costWithTea_48 : decode cX0_costWithTea 48 = .ok (.getfield 9, 3) := by decide +kernel
theorem dX0_costWithTea_51 : decode cX0_costWithTea 51 = .ok (.iload 4, 2) := by decide +kernel
theorem dX0_costWithTea_53 : decode cX0_costWithTea 53 = .ok (.iaload, 1) := by decide +kernel
theorem dX0_costWithTea_54 : decode cX0_costWithTea 54 = .ok (.istore_n 3, 1) := by decide +kernel
theorem dX0_costWithTea_55 : decode cX0_costWithTea 55 = .ok (.iinc 4 1, 3) := by decide +kernel
theorem dX0_costWithTea_58 : decode cX0_costWithTea 58 = .ok (.goto (-50), 3) := by decide +kernel
theorem dX0_costWithTea_61 : decode cX0_costWithTea 61 = .ok (.iload_n 2, 1) := by decide +kernel
theorem dX0_costWithTea_62 : decode cX0_costWithTea 62 = .ok (.ireturn, 1) := by decide +kernel
theorem bX0_costWithTea_0 {G : GX} {h : mH} {Q : mO → mH → Prop} {v1 : Int32} (hi : Iv h) (K : Vw G jX0_costWithTea 8 [some (.ref 75), some (.int v1), some (.int 0), some (.int 8), some (.int 0)] [] h Q) : Vw G jX0_costWithTea 0 [some (.ref 75), some (.int v1), none, none, none] [] h Q :=
  s_iconst 0 dX0_costWithTea_0 (by decide) (s_istore_n dX0_costWithTea_1 (Nat.le_of_ble_eq_true rfl) rfl (s_bipush 8 dX0_costWithTea_2 (by decide) (s_istore_n dX0_costWithTea_4 (Nat.le_of_ble_eq_true rfl) rfl (s_iconst 0 dX0_costWithTea_5 (by decide) (s_istore dX0_costWithTea_6 (Nat.le_of_ble_eq_true rfl) rfl (K))))))
theorem bX0_costWithTea_8 {G : GX} {h : mH} {Q : mO → mH → Prop} {v1 : Int32} {v2 : Int32} {v3 : Int32} {v4 : Int32} (hi : Iv h) (K : ((gI h 75 1) ≤ v4 → Q (.inl (some (.int v2))) h) ∧ (¬ (gI h 75 1) ≤ v4 → ((¬ v4 = v1 → (vp_in v4 8 ∧ (vp_in (fX0_apartOf v3 (gI h 76 (Int32.toNatClampNeg v4))) 80 ∧ (vp_in v4 8 ∧ Vw G jX0_costWithTea 8 [some (.ref 75), some (.int v1), some (.int (v2 + (gI h 77 (Int32.toNatClampNeg (fX0_apartOf v3 (gI h 76 (Int32.toNatClampNeg v4))))))), some (.int (gI h 76 (Int32.toNatClampNeg v4))), some (.int (v4 + 1))] [] h Q)))) ∧ (v4 = v1 → (vp_in v4 8 ∧ (vp_in (fX0_apartOf 9 (gI h 76 (Int32.toNatClampNeg v4))) 80 ∧ (vp_in v4 8 ∧ Vw G jX0_costWithTea 8 [some (.ref 75), some (.int v1), some (.int (v2 + (gI h 77 (Int32.toNatClampNeg (fX0_apartOf 9 (gI h 76 (Int32.toNatClampNeg v4))))))), some (.int (gI h 76 (Int32.toNatClampNeg v4))), some (.int (v4 + 1))] [] h Q))))))) : Vw G jX0_costWithTea 8 [some (.ref 75), some (.int v1), some (.int v2), some (.int v3), some (.int v4)] [] h Q :=
  s_iload dX0_costWithTea_8 rfl (s_aload_n dX0_costWithTea_10 rfl (s_getI dX0_costWithTea_11 flX0_24 (Or.inl rfl) (hi.sh rfl rfl) (s_icmp_ge 61 dX0_costWithTea_14 rfl (fun q3 => s_iload_n dX0_costWithTea_61 rfl (s_ireturn dX0_costWithTea_62 rfl (K.1 q3))) (fun q3 => s_iload_n dX0_costWithTea_17 rfl (s_aload_n dX0_costWithTea_18 rfl (s_getR (v := .ref 77) dX0_costWithTea_19 flX0_15 rfl (hi.sh rfl rfl) (hi.rf (o := 75) (k := 3) (d := 2) rfl rfl) (s_iload dX0_costWithTea_22 rfl (s_iload_n dX0_costWithTea_24 rfl (s_icmp_ne 33 dX0_costWithTea_25 rfl (fun q9 => s_iload_n dX0_costWithTea_33 rfl (s_aload_n dX0_costWithTea_34 rfl (s_getR (v := .ref 76) dX0_costWithTea_35 flX0_9 rfl (hi.sh rfl rfl) (hi.rf (o := 75) (k := 0) (d := 1) rfl rfl) (s_iload dX0_costWithTea_38 rfl (s_iaload dX0_costWithTea_40 (hi.sh rfl rfl) ((K.2 q3).1 q9).1 (s_callS (As := [.int v3, .int (gI h 76 (Int32.toNatClampNeg v4))]) dX0_costWithTea_41 rfl lsX0_55 ⟨Nat.le_of_ble_eq_true rfl, Nat.le_of_ble_eq_true rfl⟩ rfl (Nat.le_of_ble_eq_true rfl) (mX0_apartOf   (s_iaload dX0_costWithTea_44 (hi.sh rfl rfl) ((K.2 q3).1 q9).2.1 (s_iadd dX0_costWithTea_45 (s_istore_n dX0_costWithTea_46 (Nat.le_of_ble_eq_true rfl) rfl (s_aload_n dX0_costWithTea_47 rfl (s_getR (v := .ref 76) dX0_costWithTea_48 flX0_9 rfl (hi.sh rfl rfl) (hi.rf (o := 75) (k := 0) (d := 1) rfl rfl) (s_iload dX0_costWithTea_51 rfl (s_iaload dX0_costWithTea_53 (hi.sh rfl rfl) ((K.2 q3).1 q9).2.2.1 (s_istore_n dX0_costWithTea_54 (Nat.le_of_ble_eq_true rfl) rfl (s_iinc 1 dX0_costWithTea_55 rfl (by decide) (Nat.le_of_ble_eq_true rfl) rfl (s_goto 8 dX0_costWithTea_58 rfl (((K.2 q3).1 q9).2.2.2)))))))))))))))))) (fun q9 => s_bipush 9 dX0_costWithTea_28 (by decide) (s_goto 34 dX0_costWithTea_30 rfl (s_aload_n dX0_costWithTea_34 rfl (s_getR (v := .ref 76) dX0_costWithTea_35 flX0_9 rfl (hi.sh rfl rfl) (hi.rf (o := 75) (k := 0) (d := 1) rfl rfl) (s_iload dX0_costWithTea_38 rfl (s_iaload dX0_costWithTea_40 (hi.sh rfl rfl) ((K.2 q3).2 q9).1 (s_callS (As := [.int 9, .int (gI h 76 (Int32.toNatClampNeg v4))]) dX0_costWithTea_41 rfl lsX0_55 ⟨Nat.le_of_ble_eq_true rfl, Nat.le_of_ble_eq_true rfl⟩ rfl (Nat.le_of_ble_eq_true rfl) (mX0_apartOf   (s_iaload dX0_costWithTea_44 (hi.sh rfl rfl) ((K.2 q3).2 q9).2.1 (s_iadd dX0_costWithTea_45 (s_istore_n dX0_costWithTea_46 (Nat.le_of_ble_eq_true rfl) rfl (s_aload_n dX0_costWithTea_47 rfl (s_getR (v := .ref 76) dX0_costWithTea_48 flX0_9 rfl (hi.sh rfl rfl) (hi.rf (o := 75) (k := 0) (d := 1) rfl rfl) (s_iload dX0_costWithTea_51 rfl (s_iaload dX0_costWithTea_53 (hi.sh rfl rfl) ((K.2 q3).2 q9).2.2.1 (s_istore_n dX0_costWithTea_54 (Nat.le_of_ble_eq_true rfl) rfl (s_iinc 1 dX0_costWithTea_55 rfl (by decide) (Nat.le_of_ble_eq_true rfl) rfl (s_goto 8 dX0_costWithTea_58 rfl (((K.2 q3).2 q9).2.2.2))))))))))))))))))))))))))))
theorem eX0_costWithTea {G : GX} {h : mH} {Q : mO → mH → Prop} {v1 : Int32} (hi : Iv h) (K : Vw G jX0_costWithTea 8 [some (.ref 75), some (.int v1), some (.int 0), some (.int 8), some (.int 0)] [] h Q) : WM G jX0_costWithTea [.ref 75, .int v1] h Q :=
  WM.body (ls := [some (.ref 75), some (.int v1), none, none, none]) rfl (by decide +kernel) rfl (Nat.le_of_ble_eq_true rfl) rfl ((bX0_costWithTea_0 hi  K))
theorem dX0_soonestTea_0 : decode cX0_soonestTea 0 = .ok (.iconst 1, 1) := by decide +kernel
theorem dX0_soonestTea_1 : decode cX0_soonestTea 1 = .ok (.istore_n 2, 1) := by decide +kernel
theorem dX0_soonestTea_2 : decode cX0_soonestTea 2 = .ok (.iload_n 2, 1) := by decide +kernel
theorem dX0_soonestTea_3 : decode cX0_soonestTea 3 = .ok (.aload_n 0, 1) := by decide +kernel
theorem dX0_soonestTea_4 : decode cX0_soonestTea 4 = .ok (.getfield 24, 3) := by decide +kernel
theorem dX0_soonestTea_7 : decode cX0_soonestTea 7 = .ok (.if_icmp .ge 20, 3) := by decide +kernel
theorem dX0_soonestTea_10 : decode cX0_soonestTea 10 = .ok (.aload_n 0, 1) := by decide +kernel
theorem dX0_soonestTea_11 : decode cX0_soonestTea 11 = .ok (.iload_n 2, 1) := by decide +kernel
theorem dX0_soonestTea_12 : decode cX0_soonestTea 12 = .ok (.invokevirtual 86, 3) := by decide +kernel
theorem dX0_soonestTea_15 : decode cX0_soonestTea 15 = .ok (.iload_n 1, 1) := by decide +kernel
theorem dX0_soonestTea_16 : decode cX0_soonestTea 16 = .ok (.if_icmp .ne 5, 3) := by decide +kernel
theorem dX0_soonestTea_19 : decode cX0_soonestTea 19 = .ok (.iload_n 2, 1) := by decide +kernel
theorem dX0_soonestTea_20 : decode cX0_soonestTea 20 = .ok (.ireturn, 1) := by decide +kernel
theorem dX0_soonestTea_21 : decode cX0_soonestTea 21 = .ok (.iinc 2 1, 3) := by decide +kernel
theorem dX0_soonestTea_24 : decode cX0_soonestTea 24 = .ok (.goto (-22), 3) := by decide +kernel
theorem dX0_soonestTea_27 : decode cX0_soonestTea 27 = .ok (.iconst 0, 1) := by decide +kernel
theorem dX0_soonestTea_28 : decode cX0_soonestTea 28 = .ok (.ireturn, 1) := by decide +kernel
theorem bX0_soonestTea_0 {G : GX} {h : mH} {Q : mO → mH → Prop} {v1 : Int32} (hi : Iv h) (K : Vw G jX0_soonestTea 2 [some (.ref 75), some (.int v1), some (.int 1)] [] h Q) : Vw G jX0_soonestTea 0 [some (.ref 75), some (.int v1), none] [] h Q :=
  s_iconst 1 dX0_soonestTea_0 (by decide) (s_istore_n dX0_soonestTea_1 (Nat.le_of_ble_eq_true rfl) rfl (K))
theorem bX0_soonestTea_2 {G : GX} {h : mH} {Q : mO → mH → Prop} {v1 : Int32} {v2 : Int32} (hi : Iv h) (K : ((gI h 75 1) ≤ v2 → Q (.inl (some (.int 0))) h) ∧ (¬ (gI h 75 1) ≤ v2 → WM G jX0_costWithTea [.ref 75, .int v2] h (Aft G jX0_soonestTea 12 [some (.ref 75), some (.int v1), some (.int v2)] [] Q))) : Vw G jX0_soonestTea 2 [some (.ref 75), some (.int v1), some (.int v2)] [] h Q :=
  s_iload_n dX0_soonestTea_2 rfl (s_aload_n dX0_soonestTea_3 rfl (s_getI dX0_soonestTea_4 flX0_24 (Or.inl rfl) (hi.sh rfl rfl) (s_icmp_ge 27 dX0_soonestTea_7 rfl (fun q3 => s_iconst 0 dX0_soonestTea_27 (by decide) (s_ireturn dX0_soonestTea_28 rfl (K.1 q3))) (fun q3 => s_aload_n dX0_soonestTea_10 rfl (s_iload_n dX0_soonestTea_11 rfl (s_callV (As := [.int v2]) dX0_soonestTea_12 rfl lvX0_86 ⟨Nat.le_of_ble_eq_true rfl, Nat.le_of_ble_eq_true rfl⟩ (hi.sh rfl rfl) ⟨_, _, by decide, rfl⟩ rfl (Nat.le_of_ble_eq_true rfl) ((K.2 q3))))))))
theorem bX0_soonestTea_15 {G : GX} {h : mH} {Q : mO → mH → Prop} {v1 : Int32} {v2 : Int32} {vs0 : Int32} (hi : Iv h) (K : (¬ vs0 = v1 → Vw G jX0_soonestTea 2 [some (.ref 75), some (.int v1), some (.int (v2 + 1))] [] h Q) ∧ (vs0 = v1 → Q (.inl (some (.int v2))) h)) : Vw G jX0_soonestTea 15 [some (.ref 75), some (.int v1), some (.int v2)] [.int vs0] h Q :=
  s_iload_n dX0_soonestTea_15 rfl (s_icmp_ne 21 dX0_soonestTea_16 rfl (fun q1 => s_iinc 1 dX0_soonestTea_21 rfl (by decide) (Nat.le_of_ble_eq_true rfl) rfl (s_goto 2 dX0_soonestTea_24 rfl ((K.1 q1)))) (fun q1 => s_iload_n dX0_soonestTea_19 rfl (s_ireturn dX0_soonestTea_20 rfl (K.2 q1))))
theorem eX0_soonestTea {G : GX} {h : mH} {Q : mO → mH → Prop} {v1 : Int32} (hi : Iv h) (K : Vw G jX0_soonestTea 2 [some (.ref 75), some (.int v1), some (.int 1)] [] h Q) : WM G jX0_soonestTea [.ref 75, .int v1] h Q :=
  WM.body (ls := [some (.ref 75), some (.int v1), none]) rfl (by decide +kernel) rfl (Nat.le_of_ble_eq_true rfl) rfl ((bX0_soonestTea_0 hi  K))
theorem dX0_choose_0 : decode cX0_choose 0 = .ok (.iload_n 1, 1) := by decide +kernel
theorem dX0_choose_1 : decode cX0_choose 1 = .ok (.istore_n 2, 1) := by decide +kernel
theorem dX0_choose_2 : decode cX0_choose 2 = .ok (.bipush 8, 2) := by decide +kernel
theorem dX0_choose_4 : decode cX0_choose 4 = .ok (.istore_n 3, 1) := by decide +kernel
theorem dX0_choose_5 : decode cX0_choose 5 = .ok (.iconst 0, 1) := by decide +kernel
theorem dX0_choose_6 : decode cX0_choose 6 = .ok (.istore 4, 2) := by decide +kernel
theorem dX0_choose_8 : decode cX0_choose 8 = .ok (.ldc 68, 2) := by decide +kernel
theorem dX0_choose_10 : decode cX0_choose 10 = .ok (.istore 5, 2) := by decide +kernel
theorem dX0_choose_12 : decode cX0_choose 12 = .ok (.ldc 68, 2) := by decide +kernel
theorem dX0_choose_14 : decode cX0_choose 14 = .ok (.istore 6, 2) := by decide +kernel
theorem dX0_choose_16 : decode cX0_choose 16 = .ok (.aload_n 0, 1) := by decide +kernel
theorem dX0_choose_17 : decode cX0_choose 17 = .ok (.iconst 0, 1) := by decide +kernel
theorem dX0_choose_18 : decode cX0_choose 18 = .ok (.putfield 24, 3) := by decide +kernel
theorem dX0_choose_21 : decode cX0_choose 21 = .ok (.iload_n 2, 1) := by decide +kernel
theorem dX0_choose_22 : decode cX0_choose 22 = .ok (.ifCond .eq 143, 3) := by decide +kernel
theorem dX0_choose_25 : decode cX0_choose 25 = .ok (.aload_n 0, 1) := by decide +kernel
theorem dX0_choose_26 : decode cX0_choose 26 = .ok (.getfield 24, 3) := by decide +kernel
theorem dX0_choose_29 : decode cX0_choose 29 = .ok (.bipush 8, 2) := by decide +kernel
theorem dX0_choose_31 : decode cX0_choose 31 = .ok (.if_icmp .ge 134, 3) := by decide +kernel
theorem dX0_choose_34 : decode cX0_choose 34 = .ok (.iconst 0, 1) := by decide +kernel
theorem dX0_choose_35 : decode cX0_choose 35 = .ok (.istore 7, 2) := by decide +kernel
theorem dX0_choose_37 : decode cX0_choose 37 = .ok (.ldc 68, 2) := by decide +kernel
theorem dX0_choose_39 : decode cX0_choose 39 = .ok (.istore 6, 2) := by decide +kernel
theorem dX0_choose_41 : decode cX0_choose 41 = .ok (.iconst 0, 1) := by decide +kernel
theorem dX0_choose_42 : decode cX0_choose 42 = .ok (.istore 8, 2) := by decide +kernel
theorem dX0_choose_44 : decode cX0_choose 44 = .ok (.iload 8, 2) := by decide +kernel
theorem dX0_choose_46 : decode cX0_choose 46 = .ok (.bipush 8, 2) := by decide +kernel
theorem dX0_choose_48 : decode cX0_choose 48 = .ok (.if_icmp .ge 52, 3) := by decide +kernel
theorem dX0_choose_51 : decode cX0_choose 51 = .ok (.iload_n 2, 1) := by decide +kernel
theorem dX0_choose_52 : decode cX0_choose 52 = .ok (.iload 8, 2) := by decide +kernel
theorem dX0_choose_54 : decode cX0_choose 54 = .ok (.invokestatic 35, 3) := by decide +kernel
theorem dX0_choose_57 : decode cX0_choose 57 = .ok (.ifCond .eq 18, 3) := by decide +kernel
theorem dX0_choose_60 : decode cX0_choose 60 = .ok (.aload_n 0, 1) := by decide +kernel
theorem dX0_choose_61 : decode cX0_choose 61 = .ok (.iload_n 2, 1) := by decide +kernel
theorem dX0_choose_62 : decode cX0_choose 62 = .ok (.iload_n 3, 1) := by decide +kernel
theorem dX0_choose_63 : decode cX0_choose 63 = .ok (.iload 8, 2) := by decide +kernel
theorem dX0_choose_65 : decode cX0_choose 65 = .ok (.iload 4, 2) := by decide +kernel
theorem dX0_choose_67 : decode cX0_choose 67 = .ok (.iload 5, 2) := by decide +kernel
theorem dX0_choose_69 : decode cX0_choose 69 = .ok (.invokevirtual 75, 3) := by decide +kernel
theorem dX0_choose_72 : decode cX0_choose 72 = .ok (.goto 5, 3) := by decide +kernel
theorem dX0_choose_75 : decode cX0_choose 75 = .ok (.ldc 68, 2) := by decide +kernel
theorem dX0_choose_77 : decode cX0_choose 77 = .ok (.istore 9, 2) := by decide +kernel
theorem dX0_choose_79 : decode cX0_choose 79 = .ok (.iload 9, 2) := by decide +kernel
theorem dX0_choose_81 : decode cX0_choose 81 = .ok (.iload 6, 2) := by decide +kernel
theorem dX0_choose_83 : decode cX0_choose 83 = .ok (.if_icmp .ge 11, 3) := by decide +kernel
theorem dX0_choose_86 : decode cX0_choose 86 = .ok (.iload 9, 2) := by decide +kernel
theorem dX0_choose_88 : decode cX0_choose 88 = .ok (.istore 6, 2) := by decide +kernel
theorem dX0_choose_90 : decode cX0_choose 90 = .ok (.iload 8, 2) := by decide +kernel
theorem dX0_choose_92 : decode cX0_choose 92 = .ok (.istore 7, 2) := by decide +kernel
theorem dX0_choose_94 : decode cX0_choose 94 = .ok (.iinc 8 1, 3) := by decide +kernel
theorem dX0_choose_97 : decode cX0_choose 97 = .ok (.goto (-53), 3) := by decide +kernel
theorem dX0_choose_100 : decode cX0_choose 100 = .ok (.aload_n 0, 1) := by decide +kernel
theorem dX0_choose_101 : decode cX0_choose 101 = .ok (.iload_n 3, 1) := by decide +kernel
theorem dX0_choose_102 : decode cX0_choose 102 = .ok (.iload 7, 2) := by decide +kernel
theorem dX0_choose_104 : decode cX0_choose 104 = .ok (.iload 4, 2) := by decide +kernel
theorem dX0_choose_106 : decode cX0_choose 106 = .ok (.iload 5, 2) := by decide +kernel
theorem dX0_choose_108 : decode cX0_choose 108 = .ok (.invokevirtual 79, 3) := by decide +kernel
theorem dX0_choose_111 : decode cX0_choose 111 = .ok (.istore 5, 2) := by decide +kernel
theorem dX0_choose_113 : decode cX0_choose 113 = .ok (.iload 4, 2) := by decide +kernel
theorem dX0_choose_115 : decode cX0_choose 115 = .ok (.aload_n 0, 1) := by decide +kernel
theorem dX0_choose_116 : decode cX0_choose 116 = .ok (.getfield 15, 3) := by decide +kernel
theorem dX0_choose_119 : decode cX0_choose 119 = .ok (.iload_n 3, 1) := by decide +kernel
theorem dX0_choose_120 : decode cX0_choose 120 = .ok (.iload 7, 2) := by decide +kernel
theorem dX0_choose_122 : decode cX0_choose 122 = .ok (.invokestatic 55, 3) := by decide +kernel
theorem dX0_choose_125 : decode cX0_choose 125 = .ok (.iaload, 1) := by decide +kernel
theorem dX0_choose_126 : decode cX0_choose 126 = .ok (.iadd, 1) := by decide +kernel
theorem dX0_choose_127 : decode cX0_choose 127 = .ok (.istore 4, 2) := by decide +kernel
theorem dX0_choose_129 : decode cX0_choose 129 = .ok (.aload_n 0, 1) := by decide +kernel
theorem dX0_choose_130 : decode cX0_choose 130 = .ok (.getfield 9, 3) := by decide +kernel
theorem dX0_choose_133 : decode cX0_choose 133 = .ok (.aload_n 0, 1) := by decide +kernel
theorem dX0_choose_134 : decode cX0_choose 134 = .ok (.getfield 24, 3) := by decide +kernel
theorem dX0_choose_137 : decode cX0_choose 137 = .ok (.iload 7, 2) := by decide +kernel
theorem dX0_choose_139 : decode cX0_choose 139 = .ok (.iastore, 1) := by decide +kernel
theorem dX0_choose_140 : decode cX0_choose 140 = .ok (.aload_n 0, 1) := by decide +kernel
theorem dX0_choose_141 : decode cX0_choose 141 = .ok (.dup, 1) := by decide +kernel
theorem dX0_choose_142 : decode cX0_choose 142 = .ok (.getfield 24, 3) := by decide +kernel
theorem dX0_choose_145 : decode cX0_choose 145 = .ok (.iconst 1, 1) := by decide +kernel
theorem dX0_choose_146 : decode cX0_choose 146 = .ok (.iadd, 1) := by decide +kernel
theorem dX0_choose_147 : decode cX0_choose 147 = .ok (.putfield 24, 3) := by decide +kernel
theorem dX0_choose_150 : decode cX0_choose 150 = .ok (.iload_n 2, 1) := by decide +kernel
theorem dX0_choose_151 : decode cX0_choose 151 = .ok (.iconst 1, 1) := by decide +kernel
theorem dX0_choose_152 : decode cX0_choose 152 = .ok (.iload 7, 2) := by decide +kernel
theorem dX0_choose_154 : decode cX0_choose 154 = .ok (.ishl, 1) := by decide +kernel
theorem dX0_choose_155 : decode cX0_choose 155 = .ok (.iconst (-1), 1) := by decide +kernel
theorem dX0_choose_156 : decode cX0_choose 156 = .ok (.ixor, 1) := by decide +kernel
theorem dX0_choose_157 : decode cX0_choose 157 = .ok (.iand, 1) := by decide +kernel
theorem dX0_choose_158 : decode cX0_choose 158 = .ok (.istore_n 2, 1) := by decide +kernel
theorem dX0_choose_159 : decode cX0_choose 159 = .ok (.iload 7, 2) := by decide +kernel
theorem dX0_choose_161 : decode cX0_choose 161 = .ok (.istore_n 3, 1) := by decide +kernel
theorem dX0_choose_162 : decode cX0_choose 162 = .ok (.goto (-141), 3) := by decide +kernel
theorem dX0_choose_165 : decode cX0_choose 165 = .ok (.aload_n 0, 1) := by decide +kernel
theorem dX0_choose_166 : decode cX0_choose 166 = .ok (.iload 4, 2) := by decide +kernel
theorem dX0_choose_168 : decode cX0_choose 168 = .ok (.iload 6, 2) := by decide +kernel
theorem dX0_choose_170 : decode cX0_choose 170 = .ok (.if_icmp .ne 7, 3) := by decide +kernel
theorem dX0_choose_173 : decode cX0_choose 173 = .ok (.iconst 0, 1) := by decide +kernel
theorem dX0_choose_174 : decode cX0_choose 174 = .ok (.goto 9, 3) := by decide +kernel
theorem dX0_choose_177 : decode cX0_choose 177 = .ok (.aload_n 0, 1) := by decide +kernel
theorem dX0_choose_178 : decode cX0_choose 178 = .ok (.iload 6, 2) := by decide +kernel
theorem dX0_choose_180 : decode cX0_choose 180 = .ok (.invokevirtual 83, 3) := by decide +kernel
theorem dX0_choose_183 : decode cX0_choose 183 = .ok (.putfield 28, 3) := by decide +kernel
theorem dX0_choose_186 : decode cX0_choose 186 = .ok (.iload 6, 2) := by decide +kernel
theorem dX0_choose_188 : decode cX0_choose 188 = .ok (.ireturn, 1) := by decide +kernel
theorem bX0_choose_0 {G : GX} {h : mH} {Q : mO → mH → Prop} {v1 : Int32} (hi : Iv h) (K : Vw G jX0_choose 21 [some (.ref 75), none, some (.int v1), some (.int 8), some (.int 0), some (.int 1000000), some (.int 1000000), none, none, none] [] (pI h 75 1 0) Q) : Vw G jX0_choose 0 [some (.ref 75), some (.int v1), none, none, none, none, none, none, none, none] [] h Q :=
  s_iload_n dX0_choose_0 rfl (s_istore_n dX0_choose_1 (Nat.le_of_ble_eq_true rfl) rfl (s_bipush 8 dX0_choose_2 (by decide) (s_istore_n dX0_choose_4 (Nat.le_of_ble_eq_true rfl) rfl (s_iconst 0 dX0_choose_5 (by decide) (s_istore dX0_choose_6 (Nat.le_of_ble_eq_true rfl) rfl (s_ldc dX0_choose_8 w_1288 (s_istore dX0_choose_10 (Nat.le_of_ble_eq_true rfl) rfl (s_ldc dX0_choose_12 w_1288 (s_istore dX0_choose_14 (Nat.le_of_ble_eq_true rfl) rfl (s_aload_n dX0_choose_16 rfl (s_iconst 0 dX0_choose_17 (by decide) (s_putI dX0_choose_18 flX0_24 ff0_1 rfl (hi.sh rfl rfl) (Vw.mask [true, false, true, true, true, true, true, false, false, false] (K))))))))))))))
theorem bX0_choose_21 {G : GX} {h : mH} {Q : mO → mH → Prop} {v2 : Int32} {v3 : Int32} {v4 : Int32} {v5 : Int32} {v6 : Int32} (hi : Iv h) (K : (v2 = 0 → Vw G jX0_choose 165 [some (.ref 75), none, none, none, some (.int v4), none, some (.int v6), none, none, none] [] h Q) ∧ (¬ v2 = 0 → ((8 ≤ (gI h 75 1) → Vw G jX0_choose 165 [some (.ref 75), none, none, none, some (.int v4), none, some (.int v6), none, none, none] [] h Q) ∧ (¬ 8 ≤ (gI h 75 1) → Vw G jX0_choose 44 [some (.ref 75), none, some (.int v2), some (.int v3), some (.int v4), some (.int v5), some (.int 1000000), some (.int 0), some (.int 0), none] [] h Q)))) : Vw G jX0_choose 21 [some (.ref 75), none, some (.int v2), some (.int v3), some (.int v4), some (.int v5), some (.int v6), none, none, none] [] h Q :=
  s_iload_n dX0_choose_21 rfl (s_if_eq 165 dX0_choose_22 rfl (fun q1 => Vw.mask [true, false, false, false, true, false, true, false, false, false] ((K.1 q1))) (fun q1 => s_aload_n dX0_choose_25 rfl (s_getI dX0_choose_26 flX0_24 (Or.inl rfl) (hi.sh rfl rfl) (s_bipush 8 dX0_choose_29 (by decide) (s_icmp_ge 165 dX0_choose_31 rfl (fun q5 => Vw.mask [true, false, false, false, true, false, true, false, false, false] (((K.2 q1).1 q5))) (fun q5 => s_iconst 0 dX0_choose_34 (by decide) (s_istore dX0_choose_35 (Nat.le_of_ble_eq_true rfl) rfl (s_ldc dX0_choose_37 w_1288 (s_istore dX0_choose_39 (Nat.le_of_ble_eq_true rfl) rfl (s_iconst 0 dX0_choose_41 (by decide) (s_istore dX0_choose_42 (Nat.le_of_ble_eq_true rfl) rfl (((K.2 q1).2 q5)))))))))))))
theorem bX0_choose_44 {G : GX} {h : mH} {Q : mO → mH → Prop} {v2 : Int32} {v3 : Int32} {v4 : Int32} {v5 : Int32} {v6 : Int32} {v7 : Int32} {v8 : Int32} (hi : Iv h) (K : (8 ≤ v8 → WM G jX0_withTea [.ref 75, .int v3, .int v7, .int v4, .int v5] h (Aft G jX0_choose 108 [some (.ref 75), none, some (.int v2), some (.int v3), some (.int v4), none, some (.int v6), some (.int v7), none, none] [] Q)) ∧ (¬ 8 ≤ v8 → (((fX0_has v2 v8) = 0 → ((v6 ≤ 1000000 → Vw G jX0_choose 94 [some (.ref 75), none, some (.int v2), some (.int v3), some (.int v4), some (.int v5), some (.int v6), some (.int v7), some (.int v8), none] [] h Q) ∧ (¬ v6 ≤ 1000000 → Vw G jX0_choose 94 [some (.ref 75), none, some (.int v2), some (.int v3), some (.int v4), some (.int v5), some (.int 1000000), some (.int v8), some (.int v8), none] [] h Q))) ∧ (¬ (fX0_has v2 v8) = 0 → WM G jX0_through [.ref 75, .int v2, .int v3, .int v8, .int v4, .int v5] h (Aft G jX0_choose 69 [some (.ref 75), none, some (.int v2), some (.int v3), some (.int v4), some (.int v5), some (.int v6), some (.int v7), some (.int v8), none] [] Q))))) : Vw G jX0_choose 44 [some (.ref 75), none, some (.int v2), some (.int v3), some (.int v4), some (.int v5), some (.int v6), some (.int v7), some (.int v8), none] [] h Q :=
  s_iload dX0_choose_44 rfl (s_bipush 8 dX0_choose_46 (by decide) (s_icmp_ge 100 dX0_choose_48 rfl (fun q2 => s_aload_n dX0_choose_100 rfl (s_iload_n dX0_choose_101 rfl (s_iload dX0_choose_102 rfl (s_iload dX0_choose_104 rfl (s_iload dX0_choose_106 rfl (Vw.mask [true, false, true, true, true, false, true, true, false, false] (s_callV (As := [.int v3, .int v7, .int v4, .int v5]) dX0_choose_108 rfl lvX0_79 ⟨Nat.le_of_ble_eq_true rfl, Nat.le_of_ble_eq_true rfl⟩ (hi.sh rfl rfl) ⟨_, _, by decide, rfl⟩ rfl (Nat.le_of_ble_eq_true rfl) ((K.1 q2))))))))) (fun q2 => s_iload_n dX0_choose_51 rfl (s_iload dX0_choose_52 rfl (s_callS (As := [.int v2, .int v8]) dX0_choose_54 rfl lsX0_35 ⟨Nat.le_of_ble_eq_true rfl, Nat.le_of_ble_eq_true rfl⟩ rfl (Nat.le_of_ble_eq_true rfl) (mX0_has   (s_if_eq 75 dX0_choose_57 rfl (fun q6 => s_ldc dX0_choose_75 w_1288 (s_istore dX0_choose_77 (Nat.le_of_ble_eq_true rfl) rfl (s_iload dX0_choose_79 rfl (s_iload dX0_choose_81 rfl (s_icmp_ge 94 dX0_choose_83 rfl (fun q11 => Vw.mask [true, false, true, true, true, true, true, true, true, false] ((((K.2 q2).1 q6).1 q11))) (fun q11 => s_iload dX0_choose_86 rfl (s_istore dX0_choose_88 (Nat.le_of_ble_eq_true rfl) rfl (s_iload dX0_choose_90 rfl (s_istore dX0_choose_92 (Nat.le_of_ble_eq_true rfl) rfl (Vw.mask [true, false, true, true, true, true, true, true, true, false] ((((K.2 q2).1 q6).2 q11)))))))))))) (fun q6 => s_aload_n dX0_choose_60 rfl (s_iload_n dX0_choose_61 rfl (s_iload_n dX0_choose_62 rfl (s_iload dX0_choose_63 rfl (s_iload dX0_choose_65 rfl (s_iload dX0_choose_67 rfl (s_callV (As := [.int v2, .int v3, .int v8, .int v4, .int v5]) dX0_choose_69 rfl lvX0_75 ⟨Nat.le_of_ble_eq_true rfl, Nat.le_of_ble_eq_true rfl⟩ (hi.sh rfl rfl) ⟨_, _, by decide, rfl⟩ rfl (Nat.le_of_ble_eq_true rfl) (((K.2 q2).2 q6))))))))))))))))
theorem bX0_choose_72 {G : GX} {h : mH} {Q : mO → mH → Prop} {v2 : Int32} {v3 : Int32} {v4 : Int32} {v5 : Int32} {v6 : Int32} {v7 : Int32} {v8 : Int32} {vs0 : Int32} (hi : Iv h) (K : (v6 ≤ vs0 → Vw G jX0_choose 94 [some (.ref 75), none, some (.int v2), some (.int v3), some (.int v4), some (.int v5), some (.int v6), some (.int v7), some (.int v8), none] [] h Q) ∧ (¬ v6 ≤ vs0 → Vw G jX0_choose 94 [some (.ref 75), none, some (.int v2), some (.int v3), some (.int v4), some (.int v5), some (.int vs0), some (.int v8), some (.int v8), none] [] h Q)) : Vw G jX0_choose 72 [some (.ref 75), none, some (.int v2), some (.int v3), some (.int v4), some (.int v5), some (.int v6), some (.int v7), some (.int v8), none] [.int vs0] h Q :=
  s_goto 77 dX0_choose_72 rfl (s_istore dX0_choose_77 (Nat.le_of_ble_eq_true rfl) rfl (s_iload dX0_choose_79 rfl (s_iload dX0_choose_81 rfl (s_icmp_ge 94 dX0_choose_83 rfl (fun q4 => Vw.mask [true, false, true, true, true, true, true, true, true, false] ((K.1 q4))) (fun q4 => s_iload dX0_choose_86 rfl (s_istore dX0_choose_88 (Nat.le_of_ble_eq_true rfl) rfl (s_iload dX0_choose_90 rfl (s_istore dX0_choose_92 (Nat.le_of_ble_eq_true rfl) rfl (Vw.mask [true, false, true, true, true, true, true, true, true, false] ((K.2 q4)))))))))))
theorem bX0_choose_94 {G : GX} {h : mH} {Q : mO → mH → Prop} {v2 : Int32} {v3 : Int32} {v4 : Int32} {v5 : Int32} {v6 : Int32} {v7 : Int32} {v8 : Int32} (hi : Iv h) (K : Vw G jX0_choose 44 [some (.ref 75), none, some (.int v2), some (.int v3), some (.int v4), some (.int v5), some (.int v6), some (.int v7), some (.int (v8 + 1)), none] [] h Q) : Vw G jX0_choose 94 [some (.ref 75), none, some (.int v2), some (.int v3), some (.int v4), some (.int v5), some (.int v6), some (.int v7), some (.int v8), none] [] h Q :=
  s_iinc 1 dX0_choose_94 rfl (by decide) (Nat.le_of_ble_eq_true rfl) rfl (s_goto 44 dX0_choose_97 rfl (K))
theorem bX0_choose_111 {G : GX} {h : mH} {Q : mO → mH → Prop} {v2 : Int32} {v3 : Int32} {v4 : Int32} {v6 : Int32} {v7 : Int32} {vs0 : Int32} (hi : Iv h) (K : vp_in (fX0_apartOf v3 v7) 80 ∧ (vp_in (gI h 75 1) 8 ∧ Vw G jX0_choose 21 [some (.ref 75), none, some (.int (v2 &&& (((1 : Int32) <<< (v7 &&& 31)) ^^^ (-1)))), some (.int v7), some (.int (v4 + (gI h 77 (Int32.toNatClampNeg (fX0_apartOf v3 v7))))), some (.int vs0), some (.int v6), none, none, none] [] (pI (pI h 76 (Int32.toNatClampNeg (gI h 75 1)) v7) 75 1 ((gI (pI h 76 (Int32.toNatClampNeg (gI h 75 1)) v7) 75 1) + 1)) Q)) : Vw G jX0_choose 111 [some (.ref 75), none, some (.int v2), some (.int v3), some (.int v4), none, some (.int v6), some (.int v7), none, none] [.int vs0] h Q :=
  s_istore dX0_choose_111 (Nat.le_of_ble_eq_true rfl) rfl (s_iload dX0_choose_113 rfl (s_aload_n dX0_choose_115 rfl (s_getR (v := .ref 77) dX0_choose_116 flX0_15 rfl (hi.sh rfl rfl) (hi.rf (o := 75) (k := 3) (d := 2) rfl rfl) (s_iload_n dX0_choose_119 rfl (s_iload dX0_choose_120 rfl (s_callS (As := [.int v3, .int v7]) dX0_choose_122 rfl lsX0_55 ⟨Nat.le_of_ble_eq_true rfl, Nat.le_of_ble_eq_true rfl⟩ rfl (Nat.le_of_ble_eq_true rfl) (mX0_apartOf   (s_iaload dX0_choose_125 (hi.sh rfl rfl) K.1 (s_iadd dX0_choose_126 (s_istore dX0_choose_127 (Nat.le_of_ble_eq_true rfl) rfl (s_aload_n dX0_choose_129 rfl (s_getR (v := .ref 76) dX0_choose_130 flX0_9 rfl (hi.sh rfl rfl) (hi.rf (o := 75) (k := 0) (d := 1) rfl rfl) (s_aload_n dX0_choose_133 rfl (s_getI dX0_choose_134 flX0_24 (Or.inl rfl) (hi.sh rfl rfl) (s_iload dX0_choose_137 rfl (s_iastore dX0_choose_139 (hi.sh rfl rfl) K.2.1 (s_aload_n dX0_choose_140 rfl (s_dupr dX0_choose_141 (s_getI dX0_choose_142 flX0_24 (Or.inl rfl) (hi.sh rfl rfl) (s_iconst 1 dX0_choose_145 (by decide) (s_iadd dX0_choose_146 (s_putI dX0_choose_147 flX0_24 ff0_1 rfl (hi.sh rfl rfl) (s_iload_n dX0_choose_150 rfl (s_iconst 1 dX0_choose_151 (by decide) (s_iload dX0_choose_152 rfl (s_ishl dX0_choose_154 (s_iconst (-1) dX0_choose_155 (by decide) (s_ixor dX0_choose_156 (s_iand dX0_choose_157 (s_istore_n dX0_choose_158 (Nat.le_of_ble_eq_true rfl) rfl (s_iload dX0_choose_159 rfl (s_istore_n dX0_choose_161 (Nat.le_of_ble_eq_true rfl) rfl (s_goto 21 dX0_choose_162 rfl (Vw.mask [true, false, true, true, true, true, true, false, false, false] (K.2.2)))))))))))))))))))))))))))))))))))
theorem bX0_choose_165 {G : GX} {h : mH} {Q : mO → mH → Prop} {v4 : Int32} {v6 : Int32} (hi : Iv h) (K : (¬ v4 = v6 → WM G jX0_soonestTea [.ref 75, .int v6] h (Aft G jX0_choose 180 [none, none, none, none, none, none, some (.int v6), none, none, none] [.ref 75] Q)) ∧ (v4 = v6 → Vw G jX0_choose 183 [none, none, none, none, none, none, some (.int v6), none, none, none] [.int 0, .ref 75] h Q)) : Vw G jX0_choose 165 [some (.ref 75), none, none, none, some (.int v4), none, some (.int v6), none, none, none] [] h Q :=
  s_aload_n dX0_choose_165 rfl (s_iload dX0_choose_166 rfl (s_iload dX0_choose_168 rfl (s_icmp_ne 177 dX0_choose_170 rfl (fun q3 => s_aload_n dX0_choose_177 rfl (s_iload dX0_choose_178 rfl (Vw.mask [false, false, false, false, false, false, true, false, false, false] (s_callV (As := [.int v6]) dX0_choose_180 rfl lvX0_83 ⟨Nat.le_of_ble_eq_true rfl, Nat.le_of_ble_eq_true rfl⟩ (hi.sh rfl rfl) ⟨_, _, by decide, rfl⟩ rfl (Nat.le_of_ble_eq_true rfl) ((K.1 q3)))))) (fun q3 => s_iconst 0 dX0_choose_173 (by decide) (s_goto 183 dX0_choose_174 rfl (Vw.mask [false, false, false, false, false, false, true, false, false, false] ((K.2 q3))))))))
theorem bX0_choose_183 {G : GX} {h : mH} {Q : mO → mH → Prop} {v6 : Int32} {vs0 : Int32} (hi : Iv h) (K : Q (.inl (some (.int v6))) (pI h 75 2 vs0)) : Vw G jX0_choose 183 [none, none, none, none, none, none, some (.int v6), none, none, none] [.int vs0, .ref 75] h Q :=
  s_putI dX0_choose_183 flX0_28 ff0_2 rfl (hi.sh rfl rfl) (s_iload dX0_choose_186 rfl (s_ireturn dX0_choose_188 rfl K))
theorem eX0_choose {G : GX} {h : mH} {Q : mO → mH → Prop} {v1 : Int32} (hi : Iv h) (K : Vw G jX0_choose 21 [some (.ref 75), none, some (.int v1), some (.int 8), some (.int 0), some (.int 1000000), some (.int 1000000), none, none, none] [] (pI h 75 1 0) Q) : WM G jX0_choose [.ref 75, .int v1] h Q :=
  WM.body (ls := [some (.ref 75), some (.int v1), none, none, none, none, none, none, none, none]) rfl (by decide +kernel) rfl (Nat.le_of_ble_eq_true rfl) rfl ((bX0_choose_0 hi  K))
theorem dX0_make_0 : decode cX0_make 0 = .ok (.aload_n 0, 1) := by decide +kernel
theorem dX0_make_1 : decode cX0_make 1 = .ok (.aload_n 2, 1) := by decide +kernel
theorem dX0_make_2 : decode cX0_make 2 = .ok (.aload_n 3, 1) := by decide +kernel
theorem dX0_make_3 : decode cX0_make 3 = .ok (.invokevirtual 31, 3) := by decide +kernel
theorem dX0_make_6 : decode cX0_make 6 = .ok (.iconst 0, 1) := by decide +kernel
theorem dX0_make_7 : decode cX0_make 7 = .ok (.istore 4, 2) := by decide +kernel
theorem dX0_make_9 : decode cX0_make 9 = .ok (.iload 4, 2) := by decide +kernel
theorem dX0_make_11 : decode cX0_make 11 = .ok (.iload_n 1, 1) := by decide +kernel
theorem dX0_make_12 : decode cX0_make 12 = .ok (.if_icmp .gt 62, 3) := by decide +kernel
theorem dX0_make_15 : decode cX0_make 15 = .ok (.iload 4, 2) := by decide +kernel
theorem dX0_make_17 : decode cX0_make 17 = .ok (.sipush 256, 3) := by decide +kernel
theorem dX0_make_20 : decode cX0_make 20 = .ok (.if_icmp .ge 54, 3) := by decide +kernel
theorem dX0_make_23 : decode cX0_make 23 = .ok (.iconst 0, 1) := by decide +kernel
theorem dX0_make_24 : decode cX0_make 24 = .ok (.istore 5, 2) := by decide +kernel
theorem dX0_make_26 : decode cX0_make 26 = .ok (.iload 5, 2) := by decide +kernel
theorem dX0_make_28 : decode cX0_make 28 = .ok (.bipush 8, 2) := by decide +kernel
theorem dX0_make_30 : decode cX0_make 30 = .ok (.if_icmp .ge 38, 3) := by decide +kernel
theorem dX0_make_33 : decode cX0_make 33 = .ok (.iload 4, 2) := by decide +kernel
theorem dX0_make_35 : decode cX0_make 35 = .ok (.iload_n 1, 1) := by decide +kernel
theorem dX0_make_36 : decode cX0_make 36 = .ok (.iand, 1) := by decide +kernel
theorem dX0_make_37 : decode cX0_make 37 = .ok (.iload 4, 2) := by decide +kernel
theorem dX0_make_39 : decode cX0_make 39 = .ok (.if_icmp .ne 23, 3) := by decide +kernel
theorem dX0_make_42 : decode cX0_make 42 = .ok (.iload_n 1, 1) := by decide +kernel
theorem dX0_make_43 : decode cX0_make 43 = .ok (.iload 4, 2) := by decide +kernel
theorem dX0_make_45 : decode cX0_make 45 = .ok (.ixor, 1) := by decide +kernel
theorem dX0_make_46 : decode cX0_make 46 = .ok (.iload 5, 2) := by decide +kernel
theorem dX0_make_48 : decode cX0_make 48 = .ok (.invokestatic 35, 3) := by decide +kernel
theorem dX0_make_51 : decode cX0_make 51 = .ok (.ifCond .eq 11, 3) := by decide +kernel
theorem dX0_make_54 : decode cX0_make 54 = .ok (.aload_n 0, 1) := by decide +kernel
theorem dX0_make_55 : decode cX0_make 55 = .ok (.iload 4, 2) := by decide +kernel
theorem dX0_make_57 : decode cX0_make 57 = .ok (.iload 5, 2) := by decide +kernel
theorem dX0_make_59 : decode cX0_make 59 = .ok (.invokevirtual 39, 3) := by decide +kernel
theorem dX0_make_62 : decode cX0_make 62 = .ok (.iinc 5 1, 3) := by decide +kernel
theorem dX0_make_65 : decode cX0_make 65 = .ok (.goto (-39), 3) := by decide +kernel
theorem dX0_make_68 : decode cX0_make 68 = .ok (.iinc 4 1, 3) := by decide +kernel
theorem dX0_make_71 : decode cX0_make 71 = .ok (.goto (-62), 3) := by decide +kernel
theorem dX0_make_74 : decode cX0_make 74 = .ok (.aload_n 0, 1) := by decide +kernel
theorem dX0_make_75 : decode cX0_make 75 = .ok (.iload_n 1, 1) := by decide +kernel
theorem dX0_make_76 : decode cX0_make 76 = .ok (.invokevirtual 43, 3) := by decide +kernel
theorem dX0_make_79 : decode cX0_make 79 = .ok (.ireturn, 1) := by decide +kernel
theorem bX0_make_0 {G : GX} {h : mH} {Q : mO → mH → Prop} {v1 : Int32} {r2 : Nat} {r3 : Nat} {n3 : Nat} (hi : Iv h) (k2 : kd r2 = (3, 7)) (k3 : kd r3 = (100, n3)) (K : WM G jX0_measure [.ref 75, .ref r2, .ref r3] h (Aft G jX0_make 3 [some (.ref 75), some (.int v1), none, none, none, none] [] Q)) : Vw G jX0_make 0 [some (.ref 75), some (.int v1), some (.ref r2), some (.ref r3), none, none] [] h Q :=
  s_aload_n dX0_make_0 rfl (s_aload_n dX0_make_1 rfl (s_aload_n dX0_make_2 rfl (Vw.mask [true, true, false, false, false, false] (s_callV (As := [.ref r2, .ref r3]) dX0_make_3 rfl lvX0_31 ⟨Nat.le_of_ble_eq_true rfl, Nat.le_of_ble_eq_true rfl⟩ (hi.sh rfl rfl) ⟨_, _, by decide, rfl⟩ rfl (Nat.le_of_ble_eq_true rfl) (K)))))
theorem bX0_make_6 {G : GX} {h : mH} {Q : mO → mH → Prop} {v1 : Int32} (hi : Iv h) (K : Vw G jX0_make 9 [some (.ref 75), some (.int v1), none, none, some (.int 0), none] [] h Q) : Vw G jX0_make 6 [some (.ref 75), some (.int v1), none, none, none, none] [] h Q :=
  s_iconst 0 dX0_make_6 (by decide) (s_istore dX0_make_7 (Nat.le_of_ble_eq_true rfl) rfl (K))
theorem bX0_make_9 {G : GX} {h : mH} {Q : mO → mH → Prop} {v1 : Int32} {v4 : Int32} (hi : Iv h) (K : (v1 < v4 → Vw G jX0_make 74 [some (.ref 75), some (.int v1), none, none, none, none] [] h Q) ∧ (¬ v1 < v4 → ((256 ≤ v4 → Vw G jX0_make 74 [some (.ref 75), some (.int v1), none, none, none, none] [] h Q) ∧ (¬ 256 ≤ v4 → Vw G jX0_make 26 [some (.ref 75), some (.int v1), none, none, some (.int v4), some (.int 0)] [] h Q)))) : Vw G jX0_make 9 [some (.ref 75), some (.int v1), none, none, some (.int v4), none] [] h Q :=
  s_iload dX0_make_9 rfl (s_iload_n dX0_make_11 rfl (s_icmp_gt 74 dX0_make_12 rfl (fun q2 => Vw.mask [true, true, false, false, false, false] ((K.1 q2))) (fun q2 => s_iload dX0_make_15 rfl (s_sipush 256 dX0_make_17 (by decide) (s_icmp_ge 74 dX0_make_20 rfl (fun q5 => Vw.mask [true, true, false, false, false, false] (((K.2 q2).1 q5))) (fun q5 => s_iconst 0 dX0_make_23 (by decide) (s_istore dX0_make_24 (Nat.le_of_ble_eq_true rfl) rfl (((K.2 q2).2 q5)))))))))
theorem bX0_make_26 {G : GX} {h : mH} {Q : mO → mH → Prop} {v1 : Int32} {v4 : Int32} {v5 : Int32} (hi : Iv h) (K : (8 ≤ v5 → Vw G jX0_make 9 [some (.ref 75), some (.int v1), none, none, some (.int (v4 + 1)), none] [] h Q) ∧ (¬ 8 ≤ v5 → ((¬ (v4 &&& v1) = v4 → Vw G jX0_make 62 [some (.ref 75), some (.int v1), none, none, some (.int v4), some (.int v5)] [] h Q) ∧ ((v4 &&& v1) = v4 → (((fX0_has (v1 ^^^ v4) v5) = 0 → Vw G jX0_make 62 [some (.ref 75), some (.int v1), none, none, some (.int v4), some (.int v5)] [] h Q) ∧ (¬ (fX0_has (v1 ^^^ v4) v5) = 0 → WM G jX0_weigh [.ref 75, .int v4, .int v5] h (Aft G jX0_make 59 [some (.ref 75), some (.int v1), none, none, some (.int v4), some (.int v5)] [] Q))))))) : Vw G jX0_make 26 [some (.ref 75), some (.int v1), none, none, some (.int v4), some (.int v5)] [] h Q :=
  s_iload dX0_make_26 rfl (s_bipush 8 dX0_make_28 (by decide) (s_icmp_ge 68 dX0_make_30 rfl (fun q2 => s_iinc 1 dX0_make_68 rfl (by decide) (Nat.le_of_ble_eq_true rfl) rfl (s_goto 9 dX0_make_71 rfl (Vw.mask [true, true, false, false, true, false] ((K.1 q2))))) (fun q2 => s_iload dX0_make_33 rfl (s_iload_n dX0_make_35 rfl (s_iand dX0_make_36 (s_iload dX0_make_37 rfl (s_icmp_ne 62 dX0_make_39 rfl (fun q7 => ((K.2 q2).1 q7)) (fun q7 => s_iload_n dX0_make_42 rfl (s_iload dX0_make_43 rfl (s_ixor dX0_make_45 (s_iload dX0_make_46 rfl (s_callS (As := [.int (v1 ^^^ v4), .int v5]) dX0_make_48 rfl lsX0_35 ⟨Nat.le_of_ble_eq_true rfl, Nat.le_of_ble_eq_true rfl⟩ rfl (Nat.le_of_ble_eq_true rfl) (mX0_has   (s_if_eq 62 dX0_make_51 rfl (fun q13 => (((K.2 q2).2 q7).1 q13)) (fun q13 => s_aload_n dX0_make_54 rfl (s_iload dX0_make_55 rfl (s_iload dX0_make_57 rfl (s_callV (As := [.int v4, .int v5]) dX0_make_59 rfl lvX0_39 ⟨Nat.le_of_ble_eq_true rfl, Nat.le_of_ble_eq_true rfl⟩ (hi.sh rfl rfl) ⟨_, _, by decide, rfl⟩ rfl (Nat.le_of_ble_eq_true rfl) ((((K.2 q2).2 q7).2 q13))))))))))))))))))))
theorem bX0_make_62 {G : GX} {h : mH} {Q : mO → mH → Prop} {v1 : Int32} {v4 : Int32} {v5 : Int32} (hi : Iv h) (K : Vw G jX0_make 26 [some (.ref 75), some (.int v1), none, none, some (.int v4), some (.int (v5 + 1))] [] h Q) : Vw G jX0_make 62 [some (.ref 75), some (.int v1), none, none, some (.int v4), some (.int v5)] [] h Q :=
  s_iinc 1 dX0_make_62 rfl (by decide) (Nat.le_of_ble_eq_true rfl) rfl (s_goto 26 dX0_make_65 rfl (K))
theorem bX0_make_74 {G : GX} {h : mH} {Q : mO → mH → Prop} {v1 : Int32} (hi : Iv h) (K : WM G jX0_choose [.ref 75, .int v1] h (Aft G jX0_make 76 [none, none, none, none, none, none] [] Q)) : Vw G jX0_make 74 [some (.ref 75), some (.int v1), none, none, none, none] [] h Q :=
  s_aload_n dX0_make_74 rfl (s_iload_n dX0_make_75 rfl (Vw.mask [false, false, false, false, false, false] (s_callV (As := [.int v1]) dX0_make_76 rfl lvX0_43 ⟨Nat.le_of_ble_eq_true rfl, Nat.le_of_ble_eq_true rfl⟩ (hi.sh rfl rfl) ⟨_, _, by decide, rfl⟩ rfl (Nat.le_of_ble_eq_true rfl) (K))))
theorem bX0_make_79 {G : GX} {h : mH} {Q : mO → mH → Prop} {vs0 : Int32} (hi : Iv h) (K : Q (.inl (some (.int vs0))) h) : Vw G jX0_make 79 [none, none, none, none, none, none] [.int vs0] h Q :=
  s_ireturn dX0_make_79 rfl K
theorem eX0_make {G : GX} {h : mH} {Q : mO → mH → Prop} {v1 : Int32} {r2 : Nat} {r3 : Nat} {n3 : Nat} (hi : Iv h) (k2 : kd r2 = (3, 7)) (k3 : kd r3 = (100, n3)) (K : WM G jX0_measure [.ref 75, .ref r2, .ref r3] h (Aft G jX0_make 3 [some (.ref 75), some (.int v1), none, none, none, none] [] Q)) : WM G jX0_make [.ref 75, .int v1, .ref r2, .ref r3] h Q :=
  WM.body (ls := [some (.ref 75), some (.int v1), some (.ref r2), some (.ref r3), none, none]) rfl (by decide +kernel) rfl (Nat.le_of_ble_eq_true rfl) rfl ((bX0_make_0 hi k2 k3 K))
