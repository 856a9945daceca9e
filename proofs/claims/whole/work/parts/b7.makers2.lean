section MADE3
variable {G : GX} {h : mH} {Q : mO → mH → Prop}
theorem n_X6_55 (hb : h.1 = kdL.take 56) (hz : ∀ k, gI h 55 k = 0) (k : ∀ h', Dn h 55 13 h' → Q (.inl none) h') : WM G jX6_init [.ref 55] h Q := by
  refine WM.body (ls := [some (.ref 55)]) rfl (by decide +kernel) rfl (Nat.le_of_ble_eq_true rfl) rfl ?_
  refine s_aload_n dX6_init_0 rfl (s_objInit dX6_init_1 w_311 w_124 w_125 (Nat.le_of_ble_eq_true rfl) (Nat.le_of_ble_eq_true rfl) ?_)
  have I0 : In h 55 56 (fun o k => if o = 55 then 0 else iv o k) h := In.beg hb (fun k => by rw [hz k]; simp)
  refine s_aload_n dX6_init_4 rfl (w_sub (m := 10) true I0 dX6_init_5 dX6_init_8 dX6_init_12 cl2 (by decide) w_312 w_170 w_96 flX6_12 ff6_0 (fun _ => ⟨rfl, fun _ _ _ z => by cases z; rfl⟩) rfl rfl rfl (by decide) (by decide) (by decide) (by decide) ?_ (by decide) (fun d z => by cases z; decide) (fun hb hz kk => s_callI (As := []) dX6_init_9 rfl liX6_11 w_313 w_172 rfl rfl ⟨Nat.le_of_ble_eq_true rfl, Nat.le_of_ble_eq_true rfl⟩ rfl (Nat.le_of_ble_eq_true rfl) (n_X2_56 hb hz (fun h2 D => kk h2 D))) (fun h1 I1 K1 => ?_))
  · intro o k h1 h2
    simp only [iv]
    repeat' split
    all_goals first | rfl | omega
  refine s_aload_n dX6_init_15 rfl (s_sipush 729 dX6_init_16 (by decide) (w_arrK I1 dX6_init_19 dX6_init_21 (.inl ⟨rfl, rfl⟩) w_230 (by decide) (by decide) (by decide) flX6_18 ff6_1 ⟨rfl, fun _ _ _ z => by cases z; rfl⟩ rfl rfl rfl (by decide) (by decide) (fun k => by simp [iv]) rfl (fun h2 I2 K2 => ?_)))
  refine s_aload_n dX6_init_24 rfl (s_bipush 100 dX6_init_25 (by decide) (w_arrK I2 dX6_init_27 dX6_init_29 (.inl ⟨rfl, rfl⟩) w_230 (by decide) (by decide) (by decide) flX6_24 ff6_7 ⟨rfl, fun _ _ _ z => by cases z; rfl⟩ rfl rfl rfl (by decide) (by decide) (fun k => by simp [iv]) rfl (fun h3 I3 K3 => ?_)))
  refine s_aload_n dX6_init_32 rfl (s_iconst (-1) dX6_init_33 (by decide) (s_putI dX6_init_34 flX6_27 ff6_8 rfl (I3.at0 (by decide) (by decide)) ?_))
  have I4 := I3.pI (o := 55) (k := 8) (v := (-1)) (by decide)
  refine s_return dX6_init_37 rfl (k _ (In.dn (m := 13) I4 (by decide) ?_))
  intro o k h1 h2
  simp only [iv]
  repeat' split
  all_goals first | rfl | omega
theorem n_X10_0 (hb : h.1 = kdL.take 1) (hz : ∀ k, gI h 0 k = 0) (k : ∀ h', Dn h 0 83 h' → gR h' 0 7 = .ref 43 → gR h' 0 8 = .ref 49 → Q (.inl none) h') : WM G jX10_init [.ref 0] h Q := by
  refine WM.body (ls := [some (.ref 0)]) rfl (by decide +kernel) rfl (Nat.le_of_ble_eq_true rfl) rfl ?_
  refine s_aload_n dX10_init_0 rfl (s_objInit dX10_init_1 w_123 w_124 w_125 (Nat.le_of_ble_eq_true rfl) (Nat.le_of_ble_eq_true rfl) ?_)
  have I0 : In h 0 1 (fun o k => if o = 0 then 0 else iv o k) h := In.beg hb (fun k => by rw [hz k]; simp)
  refine s_aload_n dX10_init_4 rfl (w_sub (m := 2) true I0 dX10_init_5 dX10_init_8 dX10_init_12 cl8 (by decide) w_126 w_127 w_95 flX10_12 ff9_0 (fun _ => ⟨rfl, fun _ _ _ z => by cases z; rfl⟩) rfl rfl rfl (by decide) (by decide) (by decide) (by decide) ?_ (by decide) (fun d z => by cases z; decide) (fun hb hz kk => s_callIN (As := []) dX10_init_9 rfl lnX10_11 w_129 rfl rfl ⟨Nat.le_of_ble_eq_true rfl, Nat.le_of_ble_eq_true rfl⟩ rfl (Nat.le_of_ble_eq_true rfl) (n_X9_1 hb hz (fun h2 D => kk h2 D))) (fun h1 I1 K1 => ?_))
  · intro o k h1 h2
    simp only [iv]
    repeat' split
    all_goals first | rfl | omega
  refine s_aload_n dX10_init_15 rfl (w_sub (m := 10) true I1 dX10_init_16 dX10_init_19 dX10_init_23 cl2 (by decide) w_169 w_170 w_96 flX10_19 ff9_1 (fun _ => ⟨rfl, fun _ _ _ z => by cases z; rfl⟩) rfl rfl rfl (by decide) (by decide) (by decide) (by decide) ?_ (by decide) (fun d z => by cases z; decide) (fun hb hz kk => s_callI (As := []) dX10_init_20 rfl liX10_18 w_171 w_172 rfl rfl ⟨Nat.le_of_ble_eq_true rfl, Nat.le_of_ble_eq_true rfl⟩ rfl (Nat.le_of_ble_eq_true rfl) (n_X2_3 hb hz (fun h2 D => kk h2 D))) (fun h2 I2 K2 => ?_))
  · intro o k h1 h2
    simp only [iv]
    repeat' split
    all_goals first | rfl | omega
  refine s_aload_n dX10_init_26 rfl (w_sub (m := 10) true I2 dX10_init_27 dX10_init_30 dX10_init_34 cl2 (by decide) w_169 w_170 w_96 flX10_23 ff9_2 (fun _ => ⟨rfl, fun _ _ _ z => by cases z; rfl⟩) rfl rfl rfl (by decide) (by decide) (by decide) (by decide) ?_ (by decide) (fun d z => by cases z; decide) (fun hb hz kk => s_callI (As := []) dX10_init_31 rfl liX10_18 w_171 w_172 rfl rfl ⟨Nat.le_of_ble_eq_true rfl, Nat.le_of_ble_eq_true rfl⟩ rfl (Nat.le_of_ble_eq_true rfl) (n_X2_13 hb hz (fun h2 D => kk h2 D))) (fun h3 I3 K3 => ?_))
  · intro o k h1 h2
    simp only [iv]
    repeat' split
    all_goals first | rfl | omega
  refine s_aload_n dX10_init_37 rfl (w_sub (m := 10) true I3 dX10_init_38 dX10_init_41 dX10_init_45 cl2 (by decide) w_169 w_170 w_96 flX10_26 ff9_3 (fun _ => ⟨rfl, fun _ _ _ z => by cases z; rfl⟩) rfl rfl rfl (by decide) (by decide) (by decide) (by decide) ?_ (by decide) (fun d z => by cases z; decide) (fun hb hz kk => s_callI (As := []) dX10_init_42 rfl liX10_18 w_171 w_172 rfl rfl ⟨Nat.le_of_ble_eq_true rfl, Nat.le_of_ble_eq_true rfl⟩ rfl (Nat.le_of_ble_eq_true rfl) (n_X2_23 hb hz (fun h2 D => kk h2 D))) (fun h4 I4 K4 => ?_))
  · intro o k h1 h2
    simp only [iv]
    repeat' split
    all_goals first | rfl | omega
  refine s_aload_n dX10_init_48 rfl (w_sub (m := 5) true I4 dX10_init_49 dX10_init_52 dX10_init_56 cl3 (by decide) w_231 w_232 w_98 flX10_32 ff9_4 (fun _ => ⟨rfl, fun _ _ _ z => by cases z; rfl⟩) rfl rfl rfl (by decide) (by decide) (by decide) (by decide) ?_ (by decide) (fun d z => by cases z; decide) (fun hb hz kk => s_callIN (As := []) dX10_init_53 rfl lnX10_31 w_234 rfl rfl ⟨Nat.le_of_ble_eq_true rfl, Nat.le_of_ble_eq_true rfl⟩ rfl (Nat.le_of_ble_eq_true rfl) (n_X3_33 hb hz (fun h2 D => kk h2 D))) (fun h5 I5 K5 => ?_))
  · intro o k h1 h2
    simp only [iv]
    repeat' split
    all_goals first | rfl | omega
  refine s_aload_n dX10_init_59 rfl (w_sub (m := 5) true I5 dX10_init_60 dX10_init_63 dX10_init_67 cl3 (by decide) w_231 w_232 w_98 flX10_36 ff9_5 (fun _ => ⟨rfl, fun _ _ _ z => by cases z; rfl⟩) rfl rfl rfl (by decide) (by decide) (by decide) (by decide) ?_ (by decide) (fun d z => by cases z; decide) (fun hb hz kk => s_callIN (As := []) dX10_init_64 rfl lnX10_31 w_234 rfl rfl ⟨Nat.le_of_ble_eq_true rfl, Nat.le_of_ble_eq_true rfl⟩ rfl (Nat.le_of_ble_eq_true rfl) (n_X3_38 hb hz (fun h2 D => kk h2 D))) (fun h6 I6 K6 => ?_))
  · intro o k h1 h2
    simp only [iv]
    repeat' split
    all_goals first | rfl | omega
  refine s_aload_n dX10_init_70 rfl (s_iconst 0 dX10_init_71 (by decide) (s_putZ dX10_init_72 flX10_39 ff9_6 rfl (I6.at0 (by decide) (by decide)) (by decide) ?_))
  have I7 := I6.pI (o := 0) (k := 6) (v := 0) (by decide)
  refine s_aload_n dX10_init_75 rfl (w_sub (m := 6) false I7 dX10_init_76 dX10_init_79 dX10_init_83 cl7 (by decide) w_272 w_273 w_99 flX10_46 ff9_7 (fun z => by cases z) rfl rfl rfl (by decide) (by decide) (by decide) (by decide) ?_ (by decide) (fun d z => by cases z) (fun hb hz kk => s_callIN (As := []) dX10_init_80 rfl lnX10_45 w_275 rfl rfl ⟨Nat.le_of_ble_eq_true rfl, Nat.le_of_ble_eq_true rfl⟩ rfl (Nat.le_of_ble_eq_true rfl) (n_X7_43 hb hz (fun h2 D => kk h2 D))) (fun h8 I8 K8 => ?_))
  · intro o k h1 h2
    simp only [iv]
    repeat' split
    all_goals first | rfl | omega
  have r7_8 := K8.1
  refine s_aload_n dX10_init_86 rfl (w_sub (m := 6) false I8 dX10_init_87 dX10_init_90 dX10_init_94 cl7 (by decide) w_272 w_273 w_99 flX10_50 ff9_8 (fun z => by cases z) rfl rfl rfl (by decide) (by decide) (by decide) (by decide) ?_ (by decide) (fun d z => by cases z) (fun hb hz kk => s_callIN (As := []) dX10_init_91 rfl lnX10_45 w_275 rfl rfl ⟨Nat.le_of_ble_eq_true rfl, Nat.le_of_ble_eq_true rfl⟩ rfl (Nat.le_of_ble_eq_true rfl) (n_X7_49 hb hz (fun h2 D => kk h2 D))) (fun h9 I9 K9 => ?_))
  · intro o k h1 h2
    simp only [iv]
    repeat' split
    all_goals first | rfl | omega
  have r7_9 := (K9.2 7 (by decide)).trans r7_8
  have r8_9 := K9.1
  refine s_aload_n dX10_init_97 rfl (w_sub (m := 13) true I9 dX10_init_98 dX10_init_101 dX10_init_105 cl6 (by decide) w_306 w_307 w_100 flX10_56 ff9_9 (fun _ => ⟨rfl, fun _ _ _ z => by cases z; rfl⟩) rfl rfl rfl (by decide) (by decide) (by decide) (by decide) ?_ (by decide) (fun d z => by cases z; decide) (fun hb hz kk => s_callIN (As := []) dX10_init_102 rfl lnX10_55 w_309 rfl rfl ⟨Nat.le_of_ble_eq_true rfl, Nat.le_of_ble_eq_true rfl⟩ rfl (Nat.le_of_ble_eq_true rfl) (n_X6_55 hb hz (fun h2 D => kk h2 D))) (fun h10 I10 K10 => ?_))
  · intro o k h1 h2
    simp only [iv]
    repeat' split
    all_goals first | rfl | omega
  have r7_10 := (K10.2 7 (by decide)).trans r7_9
  have r8_10 := (K10.2 8 (by decide)).trans r8_9
  refine s_aload_n dX10_init_108 rfl (w_sub (m := 3) true I10 dX10_init_109 dX10_init_112 dX10_init_116 cl4 (by decide) w_347 w_348 w_101 flX10_63 ff9_10 (fun _ => ⟨rfl, fun _ _ _ z => by cases z; rfl⟩) rfl rfl rfl (by decide) (by decide) (by decide) (by decide) ?_ (by decide) (fun d z => by cases z; decide) (fun hb hz kk => s_callIN (As := []) dX10_init_113 rfl lnX10_62 w_350 rfl rfl ⟨Nat.le_of_ble_eq_true rfl, Nat.le_of_ble_eq_true rfl⟩ rfl (Nat.le_of_ble_eq_true rfl) (n_X4_68 hb hz (fun h2 D => kk h2 D))) (fun h11 I11 K11 => ?_))
  · intro o k h1 h2
    simp only [iv]
    repeat' split
    all_goals first | rfl | omega
  have r7_11 := (K11.2 7 (by decide)).trans r7_10
  have r8_11 := (K11.2 8 (by decide)).trans r8_10
  refine s_aload_n dX10_init_119 rfl (w_sub (m := 4) true I11 dX10_init_120 dX10_init_123 dX10_init_127 cl1 (by decide) w_360 w_361 w_102 flX10_70 ff9_11 (fun _ => ⟨rfl, fun _ _ _ z => by cases z; rfl⟩) rfl rfl rfl (by decide) (by decide) (by decide) (by decide) ?_ (by decide) (fun d z => by cases z; decide) (fun hb hz kk => s_callIN (As := []) dX10_init_124 rfl lnX10_69 w_363 rfl rfl ⟨Nat.le_of_ble_eq_true rfl, Nat.le_of_ble_eq_true rfl⟩ rfl (Nat.le_of_ble_eq_true rfl) (n_X1_71 hb hz (fun h2 D => kk h2 D))) (fun h12 I12 K12 => ?_))
  · intro o k h1 h2
    simp only [iv]
    repeat' split
    all_goals first | rfl | omega
  have r7_12 := (K12.2 7 (by decide)).trans r7_11
  have r8_12 := (K12.2 8 (by decide)).trans r8_11
  refine s_aload_n dX10_init_130 rfl (w_sub (m := 5) true I12 dX10_init_131 dX10_init_134 dX10_init_138 cl0 (by decide) w_408 w_409 w_103 flX10_77 ff9_12 (fun _ => ⟨rfl, fun _ _ _ z => by cases z; rfl⟩) rfl rfl rfl (by decide) (by decide) (by decide) (by decide) ?_ (by decide) (fun d z => by cases z; decide) (fun hb hz kk => s_callIN (As := []) dX10_init_135 rfl lnX10_76 w_411 rfl rfl ⟨Nat.le_of_ble_eq_true rfl, Nat.le_of_ble_eq_true rfl⟩ rfl (Nat.le_of_ble_eq_true rfl) (n_X0_75 hb hz (fun h2 D => kk h2 D))) (fun h13 I13 K13 => ?_))
  · intro o k h1 h2
    simp only [iv]
    repeat' split
    all_goals first | rfl | omega
  have r7_13 := (K13.2 7 (by decide)).trans r7_12
  have r8_13 := (K13.2 8 (by decide)).trans r8_12
  refine s_aload_n dX10_init_141 rfl (w_sub (m := 1) true I13 dX10_init_142 dX10_init_145 dX10_init_149 cl5 (by decide) w_436 w_437 w_104 flX10_84 ff9_13 (fun _ => ⟨rfl, fun _ _ _ z => by cases z; rfl⟩) rfl rfl rfl (by decide) (by decide) (by decide) (by decide) ?_ (by decide) (fun d z => by cases z; decide) (fun hb hz kk => s_callIN (As := []) dX10_init_146 rfl lnX10_83 w_439 rfl rfl ⟨Nat.le_of_ble_eq_true rfl, Nat.le_of_ble_eq_true rfl⟩ rfl (Nat.le_of_ble_eq_true rfl) (n_X5_80 hb hz (fun h2 D => kk h2 D))) (fun h14 I14 K14 => ?_))
  · intro o k h1 h2
    simp only [iv]
    repeat' split
    all_goals first | rfl | omega
  have r7_14 := (K14.2 7 (by decide)).trans r7_13
  have r8_14 := (K14.2 8 (by decide)).trans r8_13
  refine s_aload_n dX10_init_152 rfl (s_sipush 729 dX10_init_153 (by decide) (w_arrK I14 dX10_init_156 dX10_init_158 (.inl ⟨rfl, rfl⟩) w_230 (by decide) (by decide) (by decide) flX10_88 ff9_14 ⟨rfl, fun _ _ _ z => by cases z; rfl⟩ rfl rfl rfl (by decide) (by decide) (fun k => by simp [iv]) rfl (fun h15 I15 K15 => ?_)))
  have r7_15 := (K15.2 7 (by decide)).trans r7_14
  have r8_15 := (K15.2 8 (by decide)).trans r8_14
  refine s_aload_n dX10_init_161 rfl (s_iconst 5 dX10_init_162 (by decide) (w_arrK I15 dX10_init_163 dX10_init_165 (.inl ⟨rfl, rfl⟩) w_230 (by decide) (by decide) (by decide) flX10_92 ff9_15 ⟨rfl, fun _ _ _ z => by cases z; rfl⟩ rfl rfl rfl (by decide) (by decide) (fun k => by simp [iv]) rfl (fun h16 I16 K16 => ?_)))
  have r7_16 := (K16.2 7 (by decide)).trans r7_15
  have r8_16 := (K16.2 8 (by decide)).trans r8_15
  refine s_aload_n dX10_init_168 rfl (s_iconst 0 dX10_init_169 (by decide) (s_putI dX10_init_170 flX10_95 ff9_16 rfl (I16.at0 (by decide) (by decide)) ?_))
  have I17 := I16.pI (o := 0) (k := 16) (v := 0) (by decide)
  refine s_return dX10_init_173 rfl (k _ (In.dn (m := 83) I17 (by decide) ?_) r7_16 r8_16)
  intro o k h1 h2
  simp only [iv]
  repeat' split
  all_goals first | rfl | omega
theorem n_X11_83 (hb : h.1 = kdL.take 84) (hz : ∀ k, gI h 83 k = 0) (k : ∀ h', Dn h 83 33 h' → Q (.inl none) h') : WM G jX11_init [.ref 83] h Q := by
  refine WM.body (ls := [some (.ref 83)]) rfl (by decide +kernel) rfl (Nat.le_of_ble_eq_true rfl) rfl ?_
  refine s_aload_n dX11_init_0 rfl (s_objInit dX11_init_1 w_1326 w_124 w_125 (Nat.le_of_ble_eq_true rfl) (Nat.le_of_ble_eq_true rfl) ?_)
  have I0 : In h 83 84 (fun o k => if o = 83 then 0 else iv o k) h := In.beg hb (fun k => by rw [hz k]; simp)
  refine s_aload_n dX11_init_4 rfl (s_iconst 4 dX11_init_5 (by decide) (w_arrK I0 dX11_init_6 dX11_init_8 (.inl ⟨rfl, rfl⟩) w_230 (by decide) (by decide) (by decide) flX11_7 ff10_3 ⟨rfl, fun _ _ _ z => by cases z; rfl⟩ rfl rfl rfl (by decide) (by decide) (fun k => by simp [iv]) rfl (fun h1 I1 K1 => ?_)))
  have ln1 := I1.len (by decide)
  have sb1 := I1.sl (by decide)
  refine s_aload_n dX11_init_11 rfl (s_iconst 4 dX11_init_12 (by decide) (s_newarray (t0 := 0) (N := 4) dX11_init_13 (.inl ⟨rfl, rfl⟩) w_230 (by decide) (by decide) (by decide) (by rw [ln1]; decide) (by show sl h1 + 4 ≤ 21356; omega) ?_))
  rw [ln1]
  have J1 := len4_In I1
  refine s_dupr dX11_init_15 (s_iconst 0 dX11_init_16 (by decide) (s_iconst 2 dX11_init_17 (by decide) (s_iastore dX11_init_18 J1.2.1 (by unfold vp_in; decide) (s_dupr dX11_init_19 (s_iconst 1 dX11_init_20 (by decide) (s_iconst 2 dX11_init_21 (by decide) (s_iastore dX11_init_22 J1.2.1 (by unfold vp_in; decide) (s_dupr dX11_init_23 (s_iconst 2 dX11_init_24 (by decide) (s_iconst 2 dX11_init_25 (by decide) (s_iastore dX11_init_26 J1.2.1 (by unfold vp_in; decide) (s_dupr dX11_init_27 (s_iconst 3 dX11_init_28 (by decide) (s_iconst 2 dX11_init_29 (by decide) (s_iastore dX11_init_30 J1.2.1 (by unfold vp_in; decide) (s_putR true dX11_init_31 flX11_13 ff10_4 (fun _ => ⟨rfl, fun _ _ _ z => by cases z; rfl⟩) rfl J1.2.2 ?_))))))))))))))))
  have I2 := J1.1
  refine s_aload_n dX11_init_34 rfl (s_iconst 4 dX11_init_35 (by decide) (w_arrK I2 dX11_init_36 dX11_init_38 (.inl ⟨rfl, rfl⟩) w_230 (by decide) (by decide) (by decide) flX11_16 ff10_5 ⟨rfl, fun _ _ _ z => by cases z; rfl⟩ rfl rfl rfl (by decide) (by decide) (fun k => by simp [iv]) rfl (fun h3 I3 K3 => ?_)))
  refine s_aload_n dX11_init_41 rfl (s_bipush 12 dX11_init_42 (by decide) (w_arrK I3 dX11_init_44 dX11_init_46 (.inl ⟨rfl, rfl⟩) w_230 (by decide) (by decide) (by decide) flX11_19 ff10_6 ⟨rfl, fun _ _ _ z => by cases z; rfl⟩ rfl rfl rfl (by decide) (by decide) (fun k => by simp [iv]) rfl (fun h4 I4 K4 => ?_)))
  refine s_aload_n dX11_init_49 rfl (s_bipush 12 dX11_init_50 (by decide) (w_arrK I4 dX11_init_52 dX11_init_54 (.inl ⟨rfl, rfl⟩) w_230 (by decide) (by decide) (by decide) flX11_22 ff10_7 ⟨rfl, fun _ _ _ z => by cases z; rfl⟩ rfl rfl rfl (by decide) (by decide) (fun k => by simp [iv]) rfl (fun h5 I5 K5 => ?_)))
  refine s_aload_n dX11_init_57 rfl (s_sipush 400 dX11_init_58 (by decide) (w_arrK I5 dX11_init_61 dX11_init_63 (.inl ⟨rfl, rfl⟩) w_230 (by decide) (by decide) (by decide) flX11_25 ff10_8 ⟨rfl, fun _ _ _ z => by cases z; rfl⟩ rfl rfl rfl (by decide) (by decide) (fun k => by simp [iv]) rfl (fun h6 I6 K6 => ?_)))
  refine s_aload_n dX11_init_66 rfl (s_iconst (-1) dX11_init_67 (by decide) (s_putI dX11_init_68 flX11_28 ff10_11 rfl (I6.at0 (by decide) (by decide)) ?_))
  have I7 := I6.pI (o := 83) (k := 11) (v := (-1)) (by decide)
  refine s_aload_n dX11_init_71 rfl (s_iconst 5 dX11_init_72 (by decide) (w_arrK I7 dX11_init_73 dX11_init_75 (.inl ⟨rfl, rfl⟩) w_230 (by decide) (by decide) (by decide) flX11_32 ff10_12 ⟨rfl, fun _ _ _ z => by cases z; rfl⟩ rfl rfl rfl (by decide) (by decide) (fun k => by simp [iv]) rfl (fun h8 I8 K8 => ?_)))
  refine s_aload_n dX11_init_78 rfl (s_iconst 4 dX11_init_79 (by decide) (w_arrK I8 dX11_init_80 dX11_init_82 (.inl ⟨rfl, rfl⟩) w_230 (by decide) (by decide) (by decide) flX11_35 ff10_24 ⟨rfl, fun _ _ _ z => by cases z; rfl⟩ rfl rfl rfl (by decide) (by decide) (fun k => by simp [iv]) rfl (fun h9 I9 K9 => ?_)))
  refine s_aload_n dX11_init_85 rfl (s_iconst 4 dX11_init_86 (by decide) (w_arrK I9 dX11_init_87 dX11_init_89 (.inl ⟨rfl, rfl⟩) w_230 (by decide) (by decide) (by decide) flX11_38 ff10_25 ⟨rfl, fun _ _ _ z => by cases z; rfl⟩ rfl rfl rfl (by decide) (by decide) (fun k => by simp [iv]) rfl (fun h10 I10 K10 => ?_)))
  refine s_aload_n dX11_init_92 rfl (s_iconst 4 dX11_init_93 (by decide) (w_arrK I10 dX11_init_94 dX11_init_96 (.inl ⟨rfl, rfl⟩) w_230 (by decide) (by decide) (by decide) flX11_41 ff10_26 ⟨rfl, fun _ _ _ z => by cases z; rfl⟩ rfl rfl rfl (by decide) (by decide) (fun k => by simp [iv]) rfl (fun h11 I11 K11 => ?_)))
  refine s_aload_n dX11_init_99 rfl (s_bipush 12 dX11_init_100 (by decide) (w_arrK I11 dX11_init_102 dX11_init_104 (.inl ⟨rfl, rfl⟩) w_230 (by decide) (by decide) (by decide) flX11_44 ff10_27 ⟨rfl, fun _ _ _ z => by cases z; rfl⟩ rfl rfl rfl (by decide) (by decide) (fun k => by simp [iv]) rfl (fun h12 I12 K12 => ?_)))
  refine s_aload_n dX11_init_107 rfl (s_bipush 12 dX11_init_108 (by decide) (w_arrK I12 dX11_init_110 dX11_init_112 (.inl ⟨rfl, rfl⟩) w_230 (by decide) (by decide) (by decide) flX11_47 ff10_28 ⟨rfl, fun _ _ _ z => by cases z; rfl⟩ rfl rfl rfl (by decide) (by decide) (fun k => by simp [iv]) rfl (fun h13 I13 K13 => ?_)))
  refine s_aload_n dX11_init_115 rfl (s_sipush 729 dX11_init_116 (by decide) (w_arrK I13 dX11_init_119 dX11_init_121 (.inl ⟨rfl, rfl⟩) w_230 (by decide) (by decide) (by decide) flX11_50 ff10_29 ⟨rfl, fun _ _ _ z => by cases z; rfl⟩ rfl rfl rfl (by decide) (by decide) (fun k => by simp [iv]) rfl (fun h14 I14 K14 => ?_)))
  refine s_aload_n dX11_init_124 rfl (s_bipush 96 dX11_init_125 (by decide) (w_arrK I14 dX11_init_127 dX11_init_129 (.inl ⟨rfl, rfl⟩) w_230 (by decide) (by decide) (by decide) flX11_53 ff10_31 ⟨rfl, fun _ _ _ z => by cases z; rfl⟩ rfl rfl rfl (by decide) (by decide) (fun k => by simp [iv]) rfl (fun h15 I15 K15 => ?_)))
  refine s_aload_n dX11_init_132 rfl (s_bipush 8 dX11_init_133 (by decide) (w_arrK I15 dX11_init_135 dX11_init_137 (.inl ⟨rfl, rfl⟩) w_230 (by decide) (by decide) (by decide) flX11_56 ff10_32 ⟨rfl, fun _ _ _ z => by cases z; rfl⟩ rfl rfl rfl (by decide) (by decide) (fun k => by simp [iv]) rfl (fun h16 I16 K16 => ?_)))
  refine s_aload_n dX11_init_140 rfl (s_bipush 18 dX11_init_141 (by decide) (w_arrK I16 dX11_init_143 dX11_init_145 (.inl ⟨rfl, rfl⟩) w_230 (by decide) (by decide) (by decide) flX11_59 ff10_34 ⟨rfl, fun _ _ _ z => by cases z; rfl⟩ rfl rfl rfl (by decide) (by decide) (fun k => by simp [iv]) rfl (fun h17 I17 K17 => ?_)))
  refine s_aload_n dX11_init_148 rfl (s_bipush 12 dX11_init_149 (by decide) (w_arrK I17 dX11_init_151 dX11_init_153 (.inl ⟨rfl, rfl⟩) w_230 (by decide) (by decide) (by decide) flX11_62 ff10_35 ⟨rfl, fun _ _ _ z => by cases z; rfl⟩ rfl rfl rfl (by decide) (by decide) (fun k => by simp [iv]) rfl (fun h18 I18 K18 => ?_)))
  refine s_aload_n dX11_init_156 rfl (s_bipush 10 dX11_init_157 (by decide) (w_arrK I18 dX11_init_159 dX11_init_161 (.inl ⟨rfl, rfl⟩) w_230 (by decide) (by decide) (by decide) flX11_65 ff10_37 ⟨rfl, fun _ _ _ z => by cases z; rfl⟩ rfl rfl rfl (by decide) (by decide) (fun k => by simp [iv]) rfl (fun h19 I19 K19 => ?_)))
  refine s_aload_n dX11_init_164 rfl (s_bipush 8 dX11_init_165 (by decide) (w_arrK I19 dX11_init_167 dX11_init_169 (.inl ⟨rfl, rfl⟩) w_230 (by decide) (by decide) (by decide) flX11_68 ff10_38 ⟨rfl, fun _ _ _ z => by cases z; rfl⟩ rfl rfl rfl (by decide) (by decide) (fun k => by simp [iv]) rfl (fun h20 I20 K20 => ?_)))
  refine s_aload_n dX11_init_172 rfl (s_bipush 8 dX11_init_173 (by decide) (w_arrK I20 dX11_init_175 dX11_init_177 (.inl ⟨rfl, rfl⟩) w_230 (by decide) (by decide) (by decide) flX11_71 ff10_39 ⟨rfl, fun _ _ _ z => by cases z; rfl⟩ rfl rfl rfl (by decide) (by decide) (fun k => by simp [iv]) rfl (fun h21 I21 K21 => ?_)))
  refine s_aload_n dX11_init_180 rfl (s_iconst (-1) dX11_init_181 (by decide) (s_putI dX11_init_182 flX11_74 ff10_40 rfl (I21.at0 (by decide) (by decide)) ?_))
  have I22 := I21.pI (o := 83) (k := 40) (v := (-1)) (by decide)
  refine s_aload_n dX11_init_185 rfl (s_sipush 600 dX11_init_186 (by decide) (w_arrK I22 dX11_init_189 dX11_init_191 (.inl ⟨rfl, rfl⟩) w_230 (by decide) (by decide) (by decide) flX11_77 ff10_42 ⟨rfl, fun _ _ _ z => by cases z; rfl⟩ rfl rfl rfl (by decide) (by decide) (fun k => by simp [iv]) rfl (fun h23 I23 K23 => ?_)))
  refine s_aload_n dX11_init_194 rfl (s_sipush 600 dX11_init_195 (by decide) (w_arrK I23 dX11_init_198 dX11_init_200 (.inl ⟨rfl, rfl⟩) w_230 (by decide) (by decide) (by decide) flX11_80 ff10_43 ⟨rfl, fun _ _ _ z => by cases z; rfl⟩ rfl rfl rfl (by decide) (by decide) (fun k => by simp [iv]) rfl (fun h24 I24 K24 => ?_)))
  refine s_aload_n dX11_init_203 rfl (s_iconst 5 dX11_init_204 (by decide) (w_arrK I24 dX11_init_205 dX11_init_207 (.inl ⟨rfl, rfl⟩) w_230 (by decide) (by decide) (by decide) flX11_83 ff10_44 ⟨rfl, fun _ _ _ z => by cases z; rfl⟩ rfl rfl rfl (by decide) (by decide) (fun k => by simp [iv]) rfl (fun h25 I25 K25 => ?_)))
  refine s_aload_n dX11_init_210 rfl (s_iconst 5 dX11_init_211 (by decide) (w_arrK I25 dX11_init_212 dX11_init_214 (.inl ⟨rfl, rfl⟩) w_230 (by decide) (by decide) (by decide) flX11_86 ff10_45 ⟨rfl, fun _ _ _ z => by cases z; rfl⟩ rfl rfl rfl (by decide) (by decide) (fun k => by simp [iv]) rfl (fun h26 I26 K26 => ?_)))
  refine s_aload_n dX11_init_217 rfl (s_iconst 5 dX11_init_218 (by decide) (w_arrK I26 dX11_init_219 dX11_init_221 (.inl ⟨rfl, rfl⟩) w_230 (by decide) (by decide) (by decide) flX11_89 ff10_46 ⟨rfl, fun _ _ _ z => by cases z; rfl⟩ rfl rfl rfl (by decide) (by decide) (fun k => by simp [iv]) rfl (fun h27 I27 K27 => ?_)))
  refine s_aload_n dX11_init_224 rfl (s_sipush 729 dX11_init_225 (by decide) (w_arrK I27 dX11_init_228 dX11_init_230 (.inl ⟨rfl, rfl⟩) w_230 (by decide) (by decide) (by decide) flX11_92 ff10_49 ⟨rfl, fun _ _ _ z => by cases z; rfl⟩ rfl rfl rfl (by decide) (by decide) (fun k => by simp [iv]) rfl (fun h28 I28 K28 => ?_)))
  refine s_aload_n dX11_init_233 rfl (s_bipush 12 dX11_init_234 (by decide) (w_arrK I28 dX11_init_236 dX11_init_238 (.inl ⟨rfl, rfl⟩) w_230 (by decide) (by decide) (by decide) flX11_95 ff10_50 ⟨rfl, fun _ _ _ z => by cases z; rfl⟩ rfl rfl rfl (by decide) (by decide) (fun k => by simp [iv]) rfl (fun h29 I29 K29 => ?_)))
  refine s_aload_n dX11_init_241 rfl (s_iconst 3 dX11_init_242 (by decide) (w_arrK I29 dX11_init_243 dX11_init_245 (.inl ⟨rfl, rfl⟩) w_230 (by decide) (by decide) (by decide) flX11_98 ff10_56 ⟨rfl, fun _ _ _ z => by cases z; rfl⟩ rfl rfl rfl (by decide) (by decide) (fun k => by simp [iv]) rfl (fun h30 I30 K30 => ?_)))
  refine s_aload_n dX11_init_248 rfl (s_bipush 12 dX11_init_249 (by decide) (w_arrK I30 dX11_init_251 dX11_init_253 (.inl ⟨rfl, rfl⟩) w_230 (by decide) (by decide) (by decide) flX11_101 ff10_57 ⟨rfl, fun _ _ _ z => by cases z; rfl⟩ rfl rfl rfl (by decide) (by decide) (fun k => by simp [iv]) rfl (fun h31 I31 K31 => ?_)))
  refine s_aload_n dX11_init_256 rfl (s_bipush 96 dX11_init_257 (by decide) (w_arrK I31 dX11_init_259 dX11_init_261 (.inl ⟨rfl, rfl⟩) w_230 (by decide) (by decide) (by decide) flX11_104 ff10_58 ⟨rfl, fun _ _ _ z => by cases z; rfl⟩ rfl rfl rfl (by decide) (by decide) (fun k => by simp [iv]) rfl (fun h32 I32 K32 => ?_)))
  refine s_aload_n dX11_init_264 rfl (s_bipush 18 dX11_init_265 (by decide) (w_arrK I32 dX11_init_267 dX11_init_269 (.inl ⟨rfl, rfl⟩) w_230 (by decide) (by decide) (by decide) flX11_107 ff10_59 ⟨rfl, fun _ _ _ z => by cases z; rfl⟩ rfl rfl rfl (by decide) (by decide) (fun k => by simp [iv]) rfl (fun h33 I33 K33 => ?_)))
  refine s_aload_n dX11_init_272 rfl (s_bipush 10 dX11_init_273 (by decide) (w_arrK I33 dX11_init_275 dX11_init_277 (.inl ⟨rfl, rfl⟩) w_230 (by decide) (by decide) (by decide) flX11_110 ff10_60 ⟨rfl, fun _ _ _ z => by cases z; rfl⟩ rfl rfl rfl (by decide) (by decide) (fun k => by simp [iv]) rfl (fun h34 I34 K34 => ?_)))
  refine s_return dX11_init_280 rfl (k _ (In.dn (m := 33) I34 (by decide) ?_))
  intro o k h1 h2
  simp only [iv]
  repeat' split
  all_goals first | rfl | omega
end MADE3
