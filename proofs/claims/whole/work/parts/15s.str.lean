section STRS
variable {G : GX} {j : MX} {pc : Nat} {ls : mL} {st : List Value} {h : mH} {Q : mO → mH → Prop}
theorem s_getSC {i : Nat} {x : UInt32} {e9 : String × Nat × String} (hs : sTab[x.toNat]? = some e9) (hd : decode (jC j) pc = .ok (.getfield i, 3)) (hlk : Cond.fieldLink (jY j).cls i "java/lang/String" "coder" "B" ∈ gT) (k : Vw G j (pc + 3) ls (.int 0 :: st) h Q) : Vw G j pc ls (.float x :: st) h Q := by
  intro p e s m args below meth c h0 H locs la F hS hP hE hl
  exact vk_getf F.1 F.2.1 (F.2.2.2.2.2.2.2.1.2.2.2.2.2.1 _ _ hs).2.1 hS F.2.2.2.2.2.1 (F.2.2.2.2.2.2.1 _ hlk) (fun _ z => z) hd (k p e s m args below meth c h0 H locs la F hS hP hE hl)
theorem s_getSV {i : Nat} {x y : UInt32} {e9 : String × Nat × String} (hs : sTab[x.toNat]? = some e9) (hy : y.toNat = 100 + x.toNat) (hd : decode (jC j) pc = .ok (.getfield i, 3)) (hlk : Cond.fieldLink (jY j).cls i "java/lang/String" "value" "[B" ∈ gT) (k : Vw G j (pc + 3) ls (.float y :: st) h Q) : Vw G j pc ls (.float x :: st) h Q := by
  intro p e s m args below meth c h0 H locs la F hS hP hE hl
  have := k p e s m args below meth c h0 H locs la F hS hP hE hl
  have hr : rv G (.float y) = .ref (gO G (100 + x.toNat)) := by show Value.ref (gO G y.toNat) = _; rw [hy]
  rw [List.map_cons, hr] at this
  exact vk_getf F.1 F.2.1 (F.2.2.2.2.2.2.2.1.2.2.2.2.2.1 _ _ hs).2.2.1 hS F.2.2.2.2.2.1 (F.2.2.2.2.2.2.1 _ hlk) (fun _ z => z) hd this
theorem s_getZ1 {i : Nat} (hd : decode (jC j) pc = .ok (.getstatic i, 3)) (hlk : Cond.fieldLink (jY j).cls i "java/lang/String" "COMPACT_STRINGS" "Z" ∈ gT) (k : Vw G j (pc + 3) ls (.int 1 :: st) h Q) : Vw G j pc ls st h Q := by
  intro p e s m args below meth c h0 H locs la F hS hP hE hl
  exact va_gets F.1 F.2.1 F.2.2.2.2.2.2.2.1.2.2.2.2.2.2.2.1 hS F.2.2.2.2.2.1 (F.2.2.2.2.2.2.1 _ hlk) (fun _ z => z) hd (k p e s m args below meth c h0 H locs la F hS hP hE hl)
theorem s_getFm {i : Nat} (hd : decode (jC j) pc = .ok (.getstatic i, 3)) (hlk : Cond.fieldLink (jY j).cls i "jdk/internal/util/Preconditions" "SIOOBE_FORMATTER" "Ljava/util/function/BiFunction;" ∈ gT) (k : ∀ v, v = .null ∨ v = .float 1001 → Vw G j (pc + 3) ls (v :: st) h Q) : Vw G j pc ls st h Q := by
  intro p e s m args below meth c h0 H locs la F hS hP hE hl
  rcases F.2.2.2.2.2.2.2.1.2.2.2.2.2.2.2.2.2.1 with z | z
  · exact va_gets F.1 F.2.1 z hS F.2.2.2.2.2.1 (F.2.2.2.2.2.2.1 _ hlk) (fun _ z => z) hd (k .null (Or.inl rfl) p e s m args below meth c h0 H locs la F hS hP hE hl)
  · exact va_gets F.1 F.2.1 z hS F.2.2.2.2.2.1 (F.2.2.2.2.2.2.1 _ hlk) (fun _ z => z) hd (k (.float 1001) (Or.inr rfl) p e s m args below meth c h0 H locs la F hS hP hE hl)
theorem s_alenS {x y : UInt32} {e9 : String × Nat × String} (hs : sTab[x.toNat]? = some e9) (hy : y.toNat = 100 + x.toNat) (hd : decode (jC j) pc = .ok (.arraylength, 1)) (k : Vw G j (pc + 1) ls (.int (Int32.ofNat e9.2.2.length) :: st) h Q) : Vw G j pc ls (.float y :: st) h Q := by
  intro p e s m args below meth c h0 H locs la F hS hP hE hl
  have hr : rv G (.float y) = .ref (gO G (100 + x.toNat)) := by show Value.ref (gO G y.toNat) = _; rw [hy]
  rw [List.map_cons, hr]
  have hT := (F.2.2.2.2.2.2.2.1.2.2.2.2.2.1 _ _ hs).2.2.2
  obtain ⟨cell, t1, t2, t3, t4, t5, t6, t7⟩ := hT.kept hS.2.1
  exact W.alen F.1 F.2.1 t1 t2 t5 rfl rfl hd (k p e s m args below meth c h0 H locs la F hS hP hE hl)
theorem s_baloadS {x y : UInt32} {i : Int32} {e9 : String × Nat × String} (hs : sTab[x.toNat]? = some e9) (hy : y.toNat = 100 + x.toNat) (hd : decode (jC j) pc = .ok (.baload, 1)) (hi : vp_in i e9.2.2.length) (k : Vw G j (pc + 1) ls (.int (Int32.ofNat (e9.2.2.toList.getD i.toNatClampNeg 'a').toNat) :: st) h Q) : Vw G j pc ls (.int i :: .float y :: st) h Q := by
  intro p e s m args below meth c h0 H locs la F hS hP hE hl
  have hr : rv G (.float y) = .ref (gO G (100 + x.toNat)) := by show Value.ref (gO G y.toNat) = _; rw [hy]
  rw [List.map_cons, List.map_cons, hr]
  have hT := (F.2.2.2.2.2.2.2.1.2.2.2.2.2.1 _ _ hs).2.2.2
  exact va_tb F.1 F.2.1 hT hS hi rfl hd (k p e s m args below meth c h0 H locs la F hS hP hE hl)
theorem s_nreturn {v : Int32} {ty : FieldType} (hd : decode (jC j) pc = .ok (.ireturn, 1)) (hr : jR j = some ty) (hv : narrow ty (.int v) = .int v) (hq : Q (.inl (some (.int v))) h) : Vw G j pc ls [.int v] h Q :=
  Vw.ret hq (fun p e s m args below meth c R H locs la cells slots Qc h0 F q1 q2 => W.zret F.1 F.2.1 (F.2.2.2.1.trans hr) hv q1 q2 hd F.2.2.2.2.1)
/-- a String constant's method -/
theorem s_callStr {i n : Nat} {x : UInt32} {j' : MX} {As : List Value} {e9 : String × Nat × String} (hs : sTab[x.toNat]? = some e9) (hd : decode (jC j) pc = .ok (.invokevirtual i, 3)) (hout : jT j = []) (hl : kLV (jY j).cls i j' n) (hcls : (jY j').cls = "java/lang/String") (hF : Fits j j') (hn : As.length = n) (hst : (st.map Value.category).sum ≤ 8)
    (k : WM G j' (.float x :: As) h (Aft G j pc ls st Q)) : Vw G j pc ls (As.reverse ++ .float x :: st) h Q := by
  refine Vw.call (a := .float x :: As) (st := st) hout ?_
  intro p e s m args below meth c' h0 H locs la F hS hP hE hla b1 b2 hg
  obtain ⟨hB, h1, h2, h3⟩ := hl
  have hts := F.2.2.2.2.2.2.1
  obtain ⟨ce, q1, q2, q3, -⟩ := (F.2.2.2.2.2.2.2.1.2.2.2.2.2.1 _ _ hs).1.kept hS.2.1
  have := vx_runV (n := n) (rest := st.map (rv G)) (b := gO G x.toNat) (As := As.map (rv G)) (H := H) (p := p) (e := e) (below := below) (meth := meth) (locs := locs) (cells := h.1.length - h0.1.length) (slots := sl h - sl h0) (g := F0 m pc la ((As.reverse ++ .float x :: st).map (rv G))) (C := (jY j').cls) (R := jRm j h0) ⟨F.1, F.2.1, F.2.2.1, F.2.2.2.2.2.1, hts⟩ k ⟨callB (h := h) hts hB h1 hF, hts _ h2, hts _ h3⟩
    ⟨blind, ⟨ce, q1, q2, by rw [hcls]; exact q3⟩, fun U hU hW => ⟨rfl, hg U hU hW, by rw [hU]; exact hP⟩⟩ rfl (by rw [List.length_map]; exact hn) hla (by simp [rv]) (rest_room hst) hd ⟨b1, b2⟩
  exact this
theorem dJ0_coder_7d493_0 : decode cJ0_coder_7d493 0 = .ok (.getstatic 38, 3) := by decide +kernel
theorem dJ0_coder_7d493_3 : decode cJ0_coder_7d493 3 = .ok (.ifCond .eq 10, 3) := by decide +kernel
theorem dJ0_coder_7d493_6 : decode cJ0_coder_7d493 6 = .ok (.aload_n 0, 1) := by decide +kernel
theorem dJ0_coder_7d493_7 : decode cJ0_coder_7d493 7 = .ok (.getfield 15, 3) := by decide +kernel
theorem dJ0_coder_7d493_10 : decode cJ0_coder_7d493 10 = .ok (.goto 4, 3) := by decide +kernel
theorem dJ0_coder_7d493_13 : decode cJ0_coder_7d493 13 = .ok (.iconst 1, 1) := by decide +kernel
theorem dJ0_coder_7d493_14 : decode cJ0_coder_7d493 14 = .ok (.ireturn, 1) := by decide +kernel
theorem dJ0_isLatin1_aae02_0 : decode cJ0_isLatin1_aae02 0 = .ok (.getstatic 38, 3) := by decide +kernel
theorem dJ0_isLatin1_aae02_3 : decode cJ0_isLatin1_aae02 3 = .ok (.ifCond .eq 14, 3) := by decide +kernel
theorem dJ0_isLatin1_aae02_6 : decode cJ0_isLatin1_aae02 6 = .ok (.aload_n 0, 1) := by decide +kernel
theorem dJ0_isLatin1_aae02_7 : decode cJ0_isLatin1_aae02 7 = .ok (.getfield 15, 3) := by decide +kernel
theorem dJ0_isLatin1_aae02_10 : decode cJ0_isLatin1_aae02 10 = .ok (.ifCond .ne 7, 3) := by decide +kernel
theorem dJ0_isLatin1_aae02_13 : decode cJ0_isLatin1_aae02 13 = .ok (.iconst 1, 1) := by decide +kernel
theorem dJ0_isLatin1_aae02_14 : decode cJ0_isLatin1_aae02 14 = .ok (.goto 4, 3) := by decide +kernel
theorem dJ0_isLatin1_aae02_17 : decode cJ0_isLatin1_aae02 17 = .ok (.iconst 0, 1) := by decide +kernel
theorem dJ0_isLatin1_aae02_18 : decode cJ0_isLatin1_aae02 18 = .ok (.ireturn, 1) := by decide +kernel
theorem dJ0_length_8abf5_0 : decode cJ0_length_8abf5 0 = .ok (.aload_n 0, 1) := by decide +kernel
theorem dJ0_length_8abf5_1 : decode cJ0_length_8abf5 1 = .ok (.getfield 9, 3) := by decide +kernel
theorem dJ0_length_8abf5_4 : decode cJ0_length_8abf5 4 = .ok (.arraylength, 1) := by decide +kernel
theorem dJ0_length_8abf5_5 : decode cJ0_length_8abf5 5 = .ok (.aload_n 0, 1) := by decide +kernel
theorem dJ0_length_8abf5_6 : decode cJ0_length_8abf5 6 = .ok (.invokevirtual 335, 3) := by decide +kernel
theorem dJ0_length_8abf5_9 : decode cJ0_length_8abf5 9 = .ok (.ishr, 1) := by decide +kernel
theorem dJ0_length_8abf5_10 : decode cJ0_length_8abf5 10 = .ok (.ireturn, 1) := by decide +kernel
theorem dJ3_checkIndex_8e157_0 : decode cJ3_checkIndex_8e157 0 = .ok (.iload_n 0, 1) := by decide +kernel
theorem dJ3_checkIndex_8e157_1 : decode cJ3_checkIndex_8e157 1 = .ok (.ifCond .lt 8, 3) := by decide +kernel
theorem dJ3_checkIndex_8e157_4 : decode cJ3_checkIndex_8e157 4 = .ok (.iload_n 0, 1) := by decide +kernel
theorem dJ3_checkIndex_8e157_5 : decode cJ3_checkIndex_8e157 5 = .ok (.iload_n 1, 1) := by decide +kernel
theorem dJ3_checkIndex_8e157_6 : decode cJ3_checkIndex_8e157 6 = .ok (.if_icmp .lt 10, 3) := by decide +kernel
theorem dJ3_checkIndex_8e157_9 : decode cJ3_checkIndex_8e157 9 = .ok (.aload_n 2, 1) := by decide +kernel
theorem dJ3_checkIndex_8e157_10 : decode cJ3_checkIndex_8e157 10 = .ok (.iload_n 0, 1) := by decide +kernel
theorem dJ3_checkIndex_8e157_11 : decode cJ3_checkIndex_8e157 11 = .ok (.iload_n 1, 1) := by decide +kernel
theorem dJ3_checkIndex_8e157_12 : decode cJ3_checkIndex_8e157 12 = .ok (.invokestatic 95, 3) := by decide +kernel
theorem dJ3_checkIndex_8e157_15 : decode cJ3_checkIndex_8e157 15 = .ok (.athrow, 1) := by decide +kernel
theorem dJ3_checkIndex_8e157_16 : decode cJ3_checkIndex_8e157 16 = .ok (.iload_n 0, 1) := by decide +kernel
theorem dJ3_checkIndex_8e157_17 : decode cJ3_checkIndex_8e157 17 = .ok (.ireturn, 1) := by decide +kernel
theorem dJ0_checkIndex_df160_0 : decode cJ0_checkIndex_df160 0 = .ok (.iload_n 0, 1) := by decide +kernel
theorem dJ0_checkIndex_df160_1 : decode cJ0_checkIndex_df160 1 = .ok (.iload_n 1, 1) := by decide +kernel
theorem dJ0_checkIndex_df160_2 : decode cJ0_checkIndex_df160 2 = .ok (.getstatic 1053, 3) := by decide +kernel
theorem dJ0_checkIndex_df160_5 : decode cJ0_checkIndex_df160 5 = .ok (.invokestatic 1059, 3) := by decide +kernel
theorem dJ0_checkIndex_df160_8 : decode cJ0_checkIndex_df160 8 = .ok (.pop, 1) := by decide +kernel
theorem dJ0_checkIndex_df160_9 : decode cJ0_checkIndex_df160 9 = .ok (.return_, 1) := by decide +kernel
theorem dJ1_charAt_3b067_0 : decode cJ1_charAt_3b067 0 = .ok (.iload_n 1, 1) := by decide +kernel
theorem dJ1_charAt_3b067_1 : decode cJ1_charAt_3b067 1 = .ok (.aload_n 0, 1) := by decide +kernel
theorem dJ1_charAt_3b067_2 : decode cJ1_charAt_3b067 2 = .ok (.arraylength, 1) := by decide +kernel
theorem dJ1_charAt_3b067_3 : decode cJ1_charAt_3b067 3 = .ok (.invokestatic 9, 3) := by decide +kernel
theorem dJ1_charAt_3b067_6 : decode cJ1_charAt_3b067 6 = .ok (.aload_n 0, 1) := by decide +kernel
theorem dJ1_charAt_3b067_7 : decode cJ1_charAt_3b067 7 = .ok (.iload_n 1, 1) := by decide +kernel
theorem dJ1_charAt_3b067_8 : decode cJ1_charAt_3b067 8 = .ok (.baload, 1) := by decide +kernel
theorem dJ1_charAt_3b067_9 : decode cJ1_charAt_3b067 9 = .ok (.sipush 255, 3) := by decide +kernel
theorem dJ1_charAt_3b067_12 : decode cJ1_charAt_3b067 12 = .ok (.iand, 1) := by decide +kernel
theorem dJ1_charAt_3b067_13 : decode cJ1_charAt_3b067 13 = .ok (.i2c, 1) := by decide +kernel
theorem dJ1_charAt_3b067_14 : decode cJ1_charAt_3b067 14 = .ok (.ireturn, 1) := by decide +kernel
theorem dJ0_charAt_5068e_0 : decode cJ0_charAt_5068e 0 = .ok (.aload_n 0, 1) := by decide +kernel
theorem dJ0_charAt_5068e_1 : decode cJ0_charAt_5068e 1 = .ok (.invokevirtual 492, 3) := by decide +kernel
theorem dJ0_charAt_5068e_4 : decode cJ0_charAt_5068e 4 = .ok (.ifCond .eq 12, 3) := by decide +kernel
theorem dJ0_charAt_5068e_7 : decode cJ0_charAt_5068e 7 = .ok (.aload_n 0, 1) := by decide +kernel
theorem dJ0_charAt_5068e_8 : decode cJ0_charAt_5068e 8 = .ok (.getfield 9, 3) := by decide +kernel
theorem dJ0_charAt_5068e_11 : decode cJ0_charAt_5068e 11 = .ok (.iload_n 1, 1) := by decide +kernel
theorem dJ0_charAt_5068e_12 : decode cJ0_charAt_5068e 12 = .ok (.invokestatic 495, 3) := by decide +kernel
theorem dJ0_charAt_5068e_15 : decode cJ0_charAt_5068e 15 = .ok (.ireturn, 1) := by decide +kernel
theorem dJ0_charAt_5068e_16 : decode cJ0_charAt_5068e 16 = .ok (.aload_n 0, 1) := by decide +kernel
theorem dJ0_charAt_5068e_17 : decode cJ0_charAt_5068e 17 = .ok (.getfield 9, 3) := by decide +kernel
theorem dJ0_charAt_5068e_20 : decode cJ0_charAt_5068e 20 = .ok (.iload_n 1, 1) := by decide +kernel
theorem dJ0_charAt_5068e_21 : decode cJ0_charAt_5068e 21 = .ok (.invokestatic 498, 3) := by decide +kernel
theorem dJ0_charAt_5068e_24 : decode cJ0_charAt_5068e 24 = .ok (.ireturn, 1) := by decide +kernel
theorem mJ0_coder_7d493 {x : UInt32} {e9 : String × Nat × String} (hs : sTab[x.toNat]? = some e9) (k : Q (.inl (some (.int 0))) h) : WM G jJ0_coder_7d493 [.float x] h Q :=
  WM.body (ls := [some (.float x)]) rfl (by decide +kernel) rfl (Nat.le_of_ble_eq_true rfl) rfl (s_getZ1 dJ0_coder_7d493_0 w_733 (s_if_eq 13 dJ0_coder_7d493_3 rfl (fun q => absurd q (by decide)) (fun _ => s_aloadS_n dJ0_coder_7d493_6 rfl (s_getSC hs dJ0_coder_7d493_7 w_1876 (s_goto 14 dJ0_coder_7d493_10 rfl (s_nreturn dJ0_coder_7d493_14 rfl rfl k))))))
theorem mJ0_isLatin1_aae02 {x : UInt32} {e9 : String × Nat × String} (hs : sTab[x.toNat]? = some e9) (k : Q (.inl (some (.int 1))) h) : WM G jJ0_isLatin1_aae02 [.float x] h Q :=
  WM.body (ls := [some (.float x)]) rfl (by decide +kernel) rfl (Nat.le_of_ble_eq_true rfl) rfl (s_getZ1 dJ0_isLatin1_aae02_0 w_733 (s_if_eq 17 dJ0_isLatin1_aae02_3 rfl (fun q => absurd q (by decide)) (fun _ => s_aloadS_n dJ0_isLatin1_aae02_6 rfl (s_getSC hs dJ0_isLatin1_aae02_7 w_1876 (s_if_ne 17 dJ0_isLatin1_aae02_10 rfl (fun q => absurd rfl q) (fun _ => s_iconst 1 dJ0_isLatin1_aae02_13 (by decide) (s_goto 18 dJ0_isLatin1_aae02_14 rfl (s_nreturn dJ0_isLatin1_aae02_18 rfl rfl k))))))))
theorem mJ0_length_8abf5 {x : UInt32} {e9 : String × Nat × String} (hs : sTab[x.toNat]? = some e9) (k : Q (.inl (some (.int (Int32.ofNat e9.2.2.length)))) h) : WM G jJ0_length_8abf5 [.float x] h Q := by
  have hx : x.toNat < 28 := (List.getElem?_eq_some_iff.mp hs).1
  have hy : (UInt32.ofNat (100 + x.toNat)).toNat = 100 + x.toNat := by simp; omega
  refine WM.body (ls := [some (.float x)]) rfl (by decide +kernel) rfl (Nat.le_of_ble_eq_true rfl) rfl (s_aloadS_n dJ0_length_8abf5_0 rfl (s_getSV hs hy dJ0_length_8abf5_1 w_1875 (s_alenS hs hy dJ0_length_8abf5_4 (s_aloadS_n dJ0_length_8abf5_5 rfl (s_callStr (As := []) hs dJ0_length_8abf5_6 rfl lvJ0_335 rfl ⟨Nat.le_of_ble_eq_true rfl, Nat.le_of_ble_eq_true rfl⟩ rfl (Nat.le_of_ble_eq_true rfl) (mJ0_coder_7d493 hs ?_))))))
  show Vw G jJ0_length_8abf5 9 _ (.int 0 :: .int _ :: []) h Q
  refine s_ishr dJ0_length_8abf5_9 (s_ireturn dJ0_length_8abf5_10 rfl ?_)
  have hz : ∀ z : Int32, z >>> ((0 : Int32) &&& 31) = z := fun z => by rw [show ((0 : Int32) &&& 31) = 0 from by decide]; exact Int32.shiftRight_zero
  rw [hz]
  exact k
theorem mJ3_checkIndex_8e157 {i n : Int32} {v : Value} (hv : v = .null ∨ v = .float 1001) (h1 : ¬ i < 0) (h2 : i < n) (k : Q (.inl (some (.int i))) h) : WM G jJ3_checkIndex_8e157 [.int i, .int n, v] h Q := by
  have hc : cat1 v = true := by rcases hv with rfl | rfl <;> rfl
  refine WM.body (ls := [some (.int i), some (.int n), some v]) rfl (by decide +kernel) (by simp only [List.all_cons, List.all_nil, hc]; rfl) (Nat.le_of_ble_eq_true rfl) rfl ?_
  exact s_iload_n dJ3_checkIndex_8e157_0 rfl (s_if_lt 9 dJ3_checkIndex_8e157_1 rfl (fun q => absurd q h1) (fun _ => s_iload_n dJ3_checkIndex_8e157_4 rfl (s_iload_n dJ3_checkIndex_8e157_5 rfl (s_icmp_lt 16 dJ3_checkIndex_8e157_6 rfl (fun _ => s_iload_n dJ3_checkIndex_8e157_16 rfl (s_ireturn dJ3_checkIndex_8e157_17 rfl k)) (fun q => absurd h2 q)))))
theorem mJ0_checkIndex_df160 {i n : Int32} (h1 : ¬ i < 0) (h2 : i < n) (k : Q (.inl none) h) : WM G jJ0_checkIndex_df160 [.int i, .int n] h Q := by
  refine WM.body (ls := [some (.int i), some (.int n)]) rfl (by decide +kernel) rfl (Nat.le_of_ble_eq_true rfl) rfl (s_iload_n dJ0_checkIndex_df160_0 rfl (s_iload_n dJ0_checkIndex_df160_1 rfl (s_getFm dJ0_checkIndex_df160_2 w_749 (fun v hv => ?_))))
  refine s_callS (As := [.int i, .int n, v]) dJ0_checkIndex_df160_5 rfl lsJ0_1059 ⟨Nat.le_of_ble_eq_true rfl, Nat.le_of_ble_eq_true rfl⟩ rfl (Nat.le_of_ble_eq_true rfl) (mJ3_checkIndex_8e157 hv h1 h2 ?_)
  show Vw G jJ0_checkIndex_df160 8 _ [.int i] h Q
  exact s_popi dJ0_checkIndex_df160_8 (s_return dJ0_checkIndex_df160_9 rfl k)
def sCh (e : String × Nat × String) (i : Int32) : Int32 := Int32.ofNat (e.2.2.toList.getD i.toNatClampNeg 'a').toNat
theorem sCh_ok0 : ∀ n, n < 28 → ∀ k, k < 40 → (fun z : Int32 => ((z &&& 255).toUInt32 % 65536).toInt32 = z ∧ narrow .char (.int z) = .int z) (Int32.ofNat (((sTab.getD n ("", 0, "")).2.2.toList.getD k 'a').toNat)) := by decide +kernel
theorem sCh_len : ∀ n, n < 28 → (sTab.getD n ("", 0, "")).2.2.length < 40 := by decide +kernel
theorem sCh_ok {n : Nat} {e : String × Nat × String} {i : Int32} (hs : sTab[n]? = some e) (hi : vp_in i e.2.2.length) : ((sCh e i &&& 255).toUInt32 % 65536).toInt32 = sCh e i ∧ narrow .char (.int (sCh e i)) = .int (sCh e i) := by
  have hn : n < 28 := (List.getElem?_eq_some_iff.mp hs).1
  have he : sTab.getD n ("", 0, "") = e := by rw [List.getD_eq_getElem?_getD, hs]; rfl
  have hk : i.toNatClampNeg < 40 := by
    have := sCh_len n hn
    rw [he] at this
    have h2 : ¬ e.2.2.length ≤ i.toNatClampNeg := fun z => hi (Or.inr z)
    omega
  have := sCh_ok0 n hn _ hk
  rw [he] at this
  exact this
theorem mJ1_charAt_3b067 {x y : UInt32} {i : Int32} {e9 : String × Nat × String} (hs : sTab[x.toNat]? = some e9) (hy : y.toNat = 100 + x.toNat) (hi : vp_in i e9.2.2.length) (h1 : ¬ i < 0) (h2 : i < Int32.ofNat e9.2.2.length) (k : Q (.inl (some (.int (sCh e9 i)))) h) : WM G jJ1_charAt_3b067 [.float y, .int i] h Q := by
  refine WM.body (ls := [some (.float y), some (.int i)]) rfl (by decide +kernel) rfl (Nat.le_of_ble_eq_true rfl) rfl (s_iload_n dJ1_charAt_3b067_0 rfl (s_aloadS_n dJ1_charAt_3b067_1 rfl (s_alenS hs hy dJ1_charAt_3b067_2 (s_callS (As := [.int i, .int (Int32.ofNat e9.2.2.length)]) dJ1_charAt_3b067_3 rfl lsJ1_9 ⟨Nat.le_of_ble_eq_true rfl, Nat.le_of_ble_eq_true rfl⟩ rfl (Nat.le_of_ble_eq_true rfl) (mJ0_checkIndex_df160 h1 h2 ?_)))))
  show Vw G jJ1_charAt_3b067 6 _ [] h Q
  refine s_aloadS_n dJ1_charAt_3b067_6 rfl (s_iload_n dJ1_charAt_3b067_7 rfl (s_baloadS hs hy dJ1_charAt_3b067_8 hi (s_sipush 255 dJ1_charAt_3b067_9 (by decide) (s_iand dJ1_charAt_3b067_12 (s_i2c dJ1_charAt_3b067_13 ?_)))))
  have h9 := sCh_ok hs hi
  refine s_nreturn dJ1_charAt_3b067_14 rfl ?_ ?_
  · show narrow .char (.int ((sCh e9 i &&& 255).toUInt32 % 65536).toInt32) = .int ((sCh e9 i &&& 255).toUInt32 % 65536).toInt32
    rw [h9.1]; exact h9.2
  · show Q (.inl (some (.int ((sCh e9 i &&& 255).toUInt32 % 65536).toInt32))) h
    rw [h9.1]; exact k
theorem mJ0_charAt_5068e {x : UInt32} {i : Int32} {e9 : String × Nat × String} (hs : sTab[x.toNat]? = some e9) (hi : vp_in i e9.2.2.length) (h1 : ¬ i < 0) (h2 : i < Int32.ofNat e9.2.2.length) (k : Q (.inl (some (.int (sCh e9 i)))) h) : WM G jJ0_charAt_5068e [.float x, .int i] h Q := by
  have hx : x.toNat < 28 := (List.getElem?_eq_some_iff.mp hs).1
  have hy : (UInt32.ofNat (100 + x.toNat)).toNat = 100 + x.toNat := by simp; omega
  refine WM.body (ls := [some (.float x), some (.int i)]) rfl (by decide +kernel) rfl (Nat.le_of_ble_eq_true rfl) rfl (s_aloadS_n dJ0_charAt_5068e_0 rfl (s_callStr (As := []) hs dJ0_charAt_5068e_1 rfl lvJ0_492 rfl ⟨Nat.le_of_ble_eq_true rfl, Nat.le_of_ble_eq_true rfl⟩ rfl (Nat.le_of_ble_eq_true rfl) (mJ0_isLatin1_aae02 hs ?_)))
  show Vw G jJ0_charAt_5068e 4 _ [.int 1] h Q
  refine s_if_eq 16 dJ0_charAt_5068e_4 rfl (fun q => absurd q (by decide)) (fun _ => s_aloadS_n dJ0_charAt_5068e_7 rfl (s_getSV hs hy dJ0_charAt_5068e_8 w_1875 (s_iload_n dJ0_charAt_5068e_11 rfl (s_callS (As := [.float (UInt32.ofNat (100 + x.toNat)), .int i]) dJ0_charAt_5068e_12 rfl lsJ0_495 ⟨Nat.le_of_ble_eq_true rfl, Nat.le_of_ble_eq_true rfl⟩ rfl (Nat.le_of_ble_eq_true rfl) (mJ1_charAt_3b067 hs hy hi h1 h2 ?_)))))
  show Vw G jJ0_charAt_5068e 15 _ [.int (sCh e9 i)] h Q
  exact s_nreturn dJ0_charAt_5068e_15 rfl (sCh_ok hs hi).2 k
end STRS
