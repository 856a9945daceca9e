theorem dJ9_abs_0f7a4_0 : decode cJ9_abs_0f7a4 0 = .ok (.iload_n 0, 1) := by decide +kernel
theorem dJ9_abs_0f7a4_1 : decode cJ9_abs_0f7a4 1 = .ok (.ifCond .ge 8, 3) := by decide +kernel
theorem dJ9_abs_0f7a4_4 : decode cJ9_abs_0f7a4 4 = .ok (.iload_n 0, 1) := by decide +kernel
theorem dJ9_abs_0f7a4_5 : decode cJ9_abs_0f7a4 5 = .ok (.ineg, 1) := by decide +kernel
theorem dJ9_abs_0f7a4_6 : decode cJ9_abs_0f7a4 6 = .ok (.goto 4, 3) := by decide +kernel
theorem dJ9_abs_0f7a4_9 : decode cJ9_abs_0f7a4 9 = .ok (.iload_n 0, 1) := by decide +kernel
theorem dJ9_abs_0f7a4_10 : decode cJ9_abs_0f7a4 10 = .ok (.ireturn, 1) := by decide +kernel
def fJ9_abs_0f7a4 (v0 : Int32) : Int32 := if 0 ≤ v0 then v0 else -v0
theorem mJ9_abs_0f7a4 {G : GX} {h : mH} {Q : mO → mH → Prop} {v0 : Int32} (k : Q (.inl (some (.int (fJ9_abs_0f7a4 v0)))) h) : WM G jJ9_abs_0f7a4 [.int v0] h Q :=
  WM.body (ls := [some (.int v0)]) rfl (by decide +kernel) rfl (Nat.le_of_ble_eq_true rfl) rfl (((fun (K : (0 ≤ v0 → Q (.inl (some (.int v0))) h) ∧ (¬ 0 ≤ v0 → Q (.inl (some (.int (-v0)))) h)) => show Vw G jJ9_abs_0f7a4 0 [some (.int v0)] [] h Q from s_iload_n dJ9_abs_0f7a4_0 rfl (s_if_ge 9 dJ9_abs_0f7a4_1 rfl (fun q1 => s_iload_n dJ9_abs_0f7a4_9 rfl (s_ireturn dJ9_abs_0f7a4_10 rfl (K.1 q1))) (fun q1 => s_iload_n dJ9_abs_0f7a4_4 rfl (s_ineg dJ9_abs_0f7a4_5 (s_goto 10 dJ9_abs_0f7a4_6 rfl (s_ireturn dJ9_abs_0f7a4_10 rfl (K.2 q1))))))) ⟨fun z0 => (it_t (P := fun x => Q (.inl (some (.int x))) h) z0 k), fun z0 => (it_f (P := fun x => Q (.inl (some (.int x))) h) z0 k)⟩))
theorem dJ9_min_7cf53_0 : decode cJ9_min_7cf53 0 = .ok (.iload_n 0, 1) := by decide +kernel
theorem dJ9_min_7cf53_1 : decode cJ9_min_7cf53 1 = .ok (.iload_n 1, 1) := by decide +kernel
theorem dJ9_min_7cf53_2 : decode cJ9_min_7cf53 2 = .ok (.if_icmp .gt 7, 3) := by decide +kernel
theorem dJ9_min_7cf53_5 : decode cJ9_min_7cf53 5 = .ok (.iload_n 0, 1) := by decide +kernel
theorem dJ9_min_7cf53_6 : decode cJ9_min_7cf53 6 = .ok (.goto 4, 3) := by decide +kernel
theorem dJ9_min_7cf53_9 : decode cJ9_min_7cf53 9 = .ok (.iload_n 1, 1) := by decide +kernel
theorem dJ9_min_7cf53_10 : decode cJ9_min_7cf53 10 = .ok (.ireturn, 1) := by decide +kernel
def fJ9_min_7cf53 (v0 : Int32) (v1 : Int32) : Int32 := if v1 < v0 then v1 else v0
theorem mJ9_min_7cf53 {G : GX} {h : mH} {Q : mO → mH → Prop} {v0 : Int32} {v1 : Int32} (k : Q (.inl (some (.int (fJ9_min_7cf53 v0 v1)))) h) : WM G jJ9_min_7cf53 [.int v0, .int v1] h Q :=
  WM.body (ls := [some (.int v0), some (.int v1)]) rfl (by decide +kernel) rfl (Nat.le_of_ble_eq_true rfl) rfl (((fun (K : (v1 < v0 → Q (.inl (some (.int v1))) h) ∧ (¬ v1 < v0 → Q (.inl (some (.int v0))) h)) => show Vw G jJ9_min_7cf53 0 [some (.int v0), some (.int v1)] [] h Q from s_iload_n dJ9_min_7cf53_0 rfl (s_iload_n dJ9_min_7cf53_1 rfl (s_icmp_gt 9 dJ9_min_7cf53_2 rfl (fun q2 => s_iload_n dJ9_min_7cf53_9 rfl (s_ireturn dJ9_min_7cf53_10 rfl (K.1 q2))) (fun q2 => s_iload_n dJ9_min_7cf53_5 rfl (s_goto 10 dJ9_min_7cf53_6 rfl (s_ireturn dJ9_min_7cf53_10 rfl (K.2 q2))))))) ⟨fun z0 => (it_t (P := fun x => Q (.inl (some (.int x))) h) z0 k), fun z0 => (it_f (P := fun x => Q (.inl (some (.int x))) h) z0 k)⟩))
theorem dJ9_max_7cf53_0 : decode cJ9_max_7cf53 0 = .ok (.iload_n 0, 1) := by decide +kernel
theorem dJ9_max_7cf53_1 : decode cJ9_max_7cf53 1 = .ok (.iload_n 1, 1) := by decide +kernel
theorem dJ9_max_7cf53_2 : decode cJ9_max_7cf53 2 = .ok (.if_icmp .lt 7, 3) := by decide +kernel
theorem dJ9_max_7cf53_5 : decode cJ9_max_7cf53 5 = .ok (.iload_n 0, 1) := by decide +kernel
theorem dJ9_max_7cf53_6 : decode cJ9_max_7cf53 6 = .ok (.goto 4, 3) := by decide +kernel
theorem dJ9_max_7cf53_9 : decode cJ9_max_7cf53 9 = .ok (.iload_n 1, 1) := by decide +kernel
theorem dJ9_max_7cf53_10 : decode cJ9_max_7cf53 10 = .ok (.ireturn, 1) := by decide +kernel
def fJ9_max_7cf53 (v0 : Int32) (v1 : Int32) : Int32 := if v0 < v1 then v1 else v0
theorem mJ9_max_7cf53 {G : GX} {h : mH} {Q : mO → mH → Prop} {v0 : Int32} {v1 : Int32} (k : Q (.inl (some (.int (fJ9_max_7cf53 v0 v1)))) h) : WM G jJ9_max_7cf53 [.int v0, .int v1] h Q :=
  WM.body (ls := [some (.int v0), some (.int v1)]) rfl (by decide +kernel) rfl (Nat.le_of_ble_eq_true rfl) rfl (((fun (K : (v0 < v1 → Q (.inl (some (.int v1))) h) ∧ (¬ v0 < v1 → Q (.inl (some (.int v0))) h)) => show Vw G jJ9_max_7cf53 0 [some (.int v0), some (.int v1)] [] h Q from s_iload_n dJ9_max_7cf53_0 rfl (s_iload_n dJ9_max_7cf53_1 rfl (s_icmp_lt 9 dJ9_max_7cf53_2 rfl (fun q2 => s_iload_n dJ9_max_7cf53_9 rfl (s_ireturn dJ9_max_7cf53_10 rfl (K.1 q2))) (fun q2 => s_iload_n dJ9_max_7cf53_5 rfl (s_goto 10 dJ9_max_7cf53_6 rfl (s_ireturn dJ9_max_7cf53_10 rfl (K.2 q2))))))) ⟨fun z0 => (it_t (P := fun x => Q (.inl (some (.int x))) h) z0 k), fun z0 => (it_f (P := fun x => Q (.inl (some (.int x))) h) z0 k)⟩))
theorem dX11_within_0 : decode cX11_within 0 = .ok (.iload_n 0, 1) := by decide +kernel
theorem dX11_within_1 : decode cX11_within 1 = .ok (.iload_n 1, 1) := by decide +kernel
theorem dX11_within_2 : decode cX11_within 2 = .ok (.if_icmp .lt 12, 3) := by decide +kernel
theorem dX11_within_5 : decode cX11_within 5 = .ok (.iload_n 0, 1) := by decide +kernel
theorem dX11_within_6 : decode cX11_within 6 = .ok (.iload_n 2, 1) := by decide +kernel
theorem dX11_within_7 : decode cX11_within 7 = .ok (.if_icmp .gt 7, 3) := by decide +kernel
theorem dX11_within_10 : decode cX11_within 10 = .ok (.iconst 1, 1) := by decide +kernel
theorem dX11_within_11 : decode cX11_within 11 = .ok (.goto 4, 3) := by decide +kernel
theorem dX11_within_14 : decode cX11_within 14 = .ok (.iconst 0, 1) := by decide +kernel
theorem dX11_within_15 : decode cX11_within 15 = .ok (.ireturn, 1) := by decide +kernel
def fX11_within (v0 : Int32) (v1 : Int32) (v2 : Int32) : Int32 := if v0 < v1 then 0 else if v2 < v0 then 0 else 1
theorem mX11_within {G : GX} {h : mH} {Q : mO → mH → Prop} {v0 : Int32} {v1 : Int32} {v2 : Int32} (k : Q (.inl (some (.int (fX11_within v0 v1 v2)))) h) : WM G jX11_within [.int v0, .int v1, .int v2] h Q :=
  WM.body (ls := [some (.int v0), some (.int v1), some (.int v2)]) rfl (by decide +kernel) rfl (Nat.le_of_ble_eq_true rfl) rfl (((fun (K : (v0 < v1 → Q (.inl (some (.int 0))) h) ∧ (¬ v0 < v1 → ((v2 < v0 → Q (.inl (some (.int 0))) h) ∧ (¬ v2 < v0 → Q (.inl (some (.int 1))) h)))) => show Vw G jX11_within 0 [some (.int v0), some (.int v1), some (.int v2)] [] h Q from s_iload_n dX11_within_0 rfl (s_iload_n dX11_within_1 rfl (s_icmp_lt 14 dX11_within_2 rfl (fun q2 => s_iconst 0 dX11_within_14 (by decide) (s_zreturn dX11_within_15 rfl (by decide) (K.1 q2))) (fun q2 => s_iload_n dX11_within_5 rfl (s_iload_n dX11_within_6 rfl (s_icmp_gt 14 dX11_within_7 rfl (fun q5 => s_iconst 0 dX11_within_14 (by decide) (s_zreturn dX11_within_15 rfl (by decide) ((K.2 q2).1 q5))) (fun q5 => s_iconst 1 dX11_within_10 (by decide) (s_goto 15 dX11_within_11 rfl (s_zreturn dX11_within_15 rfl (by decide) ((K.2 q2).2 q5)))))))))) ⟨fun z0 => (it_t (P := fun x => Q (.inl (some (.int x))) h) z0 k), fun z0 => ⟨fun z1 => (it_t (P := fun x => Q (.inl (some (.int x))) h) z1 (it_f (P := fun x => Q (.inl (some (.int x))) h) z0 k)), fun z1 => (it_f (P := fun x => Q (.inl (some (.int x))) h) z1 (it_f (P := fun x => Q (.inl (some (.int x))) h) z0 k))⟩⟩))
theorem dX11_size_0 : decode cX11_size 0 = .ok (.iload_n 0, 1) := by decide +kernel
theorem dX11_size_1 : decode cX11_size 1 = .ok (.ifCond .ge 9, 3) := by decide +kernel
theorem dX11_size_4 : decode cX11_size 4 = .ok (.iconst 0, 1) := by decide +kernel
theorem dX11_size_5 : decode cX11_size 5 = .ok (.iload_n 0, 1) := by decide +kernel
theorem dX11_size_6 : decode cX11_size 6 = .ok (.isub, 1) := by decide +kernel
theorem dX11_size_7 : decode cX11_size 7 = .ok (.goto 4, 3) := by decide +kernel
theorem dX11_size_10 : decode cX11_size 10 = .ok (.iload_n 0, 1) := by decide +kernel
theorem dX11_size_11 : decode cX11_size 11 = .ok (.ireturn, 1) := by decide +kernel
def fX11_size (v0 : Int32) : Int32 := if 0 ≤ v0 then v0 else 0 - v0
theorem mX11_size {G : GX} {h : mH} {Q : mO → mH → Prop} {v0 : Int32} (k : Q (.inl (some (.int (fX11_size v0)))) h) : WM G jX11_size [.int v0] h Q :=
  WM.body (ls := [some (.int v0)]) rfl (by decide +kernel) rfl (Nat.le_of_ble_eq_true rfl) rfl (((fun (K : (0 ≤ v0 → Q (.inl (some (.int v0))) h) ∧ (¬ 0 ≤ v0 → Q (.inl (some (.int (0 - v0)))) h)) => show Vw G jX11_size 0 [some (.int v0)] [] h Q from s_iload_n dX11_size_0 rfl (s_if_ge 10 dX11_size_1 rfl (fun q1 => s_iload_n dX11_size_10 rfl (s_ireturn dX11_size_11 rfl (K.1 q1))) (fun q1 => s_iconst 0 dX11_size_4 (by decide) (s_iload_n dX11_size_5 rfl (s_isub dX11_size_6 (s_goto 11 dX11_size_7 rfl (s_ireturn dX11_size_11 rfl (K.2 q1)))))))) ⟨fun z0 => (it_t (P := fun x => Q (.inl (some (.int x))) h) z0 k), fun z0 => (it_f (P := fun x => Q (.inl (some (.int x))) h) z0 k)⟩))
theorem dX11_isLetter_0 : decode cX11_isLetter 0 = .ok (.iload_n 0, 1) := by decide +kernel
theorem dX11_isLetter_1 : decode cX11_isLetter 1 = .ok (.bipush 97, 2) := by decide +kernel
theorem dX11_isLetter_3 : decode cX11_isLetter 3 = .ok (.if_icmp .lt 13, 3) := by decide +kernel
theorem dX11_isLetter_6 : decode cX11_isLetter 6 = .ok (.iload_n 0, 1) := by decide +kernel
theorem dX11_isLetter_7 : decode cX11_isLetter 7 = .ok (.bipush 122, 2) := by decide +kernel
theorem dX11_isLetter_9 : decode cX11_isLetter 9 = .ok (.if_icmp .gt 7, 3) := by decide +kernel
theorem dX11_isLetter_12 : decode cX11_isLetter 12 = .ok (.iconst 1, 1) := by decide +kernel
theorem dX11_isLetter_13 : decode cX11_isLetter 13 = .ok (.goto 4, 3) := by decide +kernel
theorem dX11_isLetter_16 : decode cX11_isLetter 16 = .ok (.iconst 0, 1) := by decide +kernel
theorem dX11_isLetter_17 : decode cX11_isLetter 17 = .ok (.ireturn, 1) := by decide +kernel
def fX11_isLetter (v0 : Int32) : Int32 := if v0 < 97 then 0 else if 122 < v0 then 0 else 1
theorem mX11_isLetter {G : GX} {h : mH} {Q : mO → mH → Prop} {v0 : Int32} (k : Q (.inl (some (.int (fX11_isLetter v0)))) h) : WM G jX11_isLetter [.int v0] h Q :=
  WM.body (ls := [some (.int v0)]) rfl (by decide +kernel) rfl (Nat.le_of_ble_eq_true rfl) rfl (((fun (K : (v0 < 97 → Q (.inl (some (.int 0))) h) ∧ (¬ v0 < 97 → ((122 < v0 → Q (.inl (some (.int 0))) h) ∧ (¬ 122 < v0 → Q (.inl (some (.int 1))) h)))) => show Vw G jX11_isLetter 0 [some (.int v0)] [] h Q from s_iload_n dX11_isLetter_0 rfl (s_bipush 97 dX11_isLetter_1 (by decide) (s_icmp_lt 16 dX11_isLetter_3 rfl (fun q2 => s_iconst 0 dX11_isLetter_16 (by decide) (s_zreturn dX11_isLetter_17 rfl (by decide) (K.1 q2))) (fun q2 => s_iload_n dX11_isLetter_6 rfl (s_bipush 122 dX11_isLetter_7 (by decide) (s_icmp_gt 16 dX11_isLetter_9 rfl (fun q5 => s_iconst 0 dX11_isLetter_16 (by decide) (s_zreturn dX11_isLetter_17 rfl (by decide) ((K.2 q2).1 q5))) (fun q5 => s_iconst 1 dX11_isLetter_12 (by decide) (s_goto 17 dX11_isLetter_13 rfl (s_zreturn dX11_isLetter_17 rfl (by decide) ((K.2 q2).2 q5)))))))))) ⟨fun z0 => (it_t (P := fun x => Q (.inl (some (.int x))) h) z0 k), fun z0 => ⟨fun z1 => (it_t (P := fun x => Q (.inl (some (.int x))) h) z1 (it_f (P := fun x => Q (.inl (some (.int x))) h) z0 k)), fun z1 => (it_f (P := fun x => Q (.inl (some (.int x))) h) z1 (it_f (P := fun x => Q (.inl (some (.int x))) h) z0 k))⟩⟩))
theorem dX11_isDigit_0 : decode cX11_isDigit 0 = .ok (.iload_n 0, 1) := by decide +kernel
theorem dX11_isDigit_1 : decode cX11_isDigit 1 = .ok (.bipush 48, 2) := by decide +kernel
theorem dX11_isDigit_3 : decode cX11_isDigit 3 = .ok (.if_icmp .lt 13, 3) := by decide +kernel
theorem dX11_isDigit_6 : decode cX11_isDigit 6 = .ok (.iload_n 0, 1) := by decide +kernel
theorem dX11_isDigit_7 : decode cX11_isDigit 7 = .ok (.bipush 57, 2) := by decide +kernel
theorem dX11_isDigit_9 : decode cX11_isDigit 9 = .ok (.if_icmp .gt 7, 3) := by decide +kernel
theorem dX11_isDigit_12 : decode cX11_isDigit 12 = .ok (.iconst 1, 1) := by decide +kernel
theorem dX11_isDigit_13 : decode cX11_isDigit 13 = .ok (.goto 4, 3) := by decide +kernel
theorem dX11_isDigit_16 : decode cX11_isDigit 16 = .ok (.iconst 0, 1) := by decide +kernel
theorem dX11_isDigit_17 : decode cX11_isDigit 17 = .ok (.ireturn, 1) := by decide +kernel
def fX11_isDigit (v0 : Int32) : Int32 := if v0 < 48 then 0 else if 57 < v0 then 0 else 1
theorem mX11_isDigit {G : GX} {h : mH} {Q : mO → mH → Prop} {v0 : Int32} (k : Q (.inl (some (.int (fX11_isDigit v0)))) h) : WM G jX11_isDigit [.int v0] h Q :=
  WM.body (ls := [some (.int v0)]) rfl (by decide +kernel) rfl (Nat.le_of_ble_eq_true rfl) rfl (((fun (K : (v0 < 48 → Q (.inl (some (.int 0))) h) ∧ (¬ v0 < 48 → ((57 < v0 → Q (.inl (some (.int 0))) h) ∧ (¬ 57 < v0 → Q (.inl (some (.int 1))) h)))) => show Vw G jX11_isDigit 0 [some (.int v0)] [] h Q from s_iload_n dX11_isDigit_0 rfl (s_bipush 48 dX11_isDigit_1 (by decide) (s_icmp_lt 16 dX11_isDigit_3 rfl (fun q2 => s_iconst 0 dX11_isDigit_16 (by decide) (s_zreturn dX11_isDigit_17 rfl (by decide) (K.1 q2))) (fun q2 => s_iload_n dX11_isDigit_6 rfl (s_bipush 57 dX11_isDigit_7 (by decide) (s_icmp_gt 16 dX11_isDigit_9 rfl (fun q5 => s_iconst 0 dX11_isDigit_16 (by decide) (s_zreturn dX11_isDigit_17 rfl (by decide) ((K.2 q2).1 q5))) (fun q5 => s_iconst 1 dX11_isDigit_12 (by decide) (s_goto 17 dX11_isDigit_13 rfl (s_zreturn dX11_isDigit_17 rfl (by decide) ((K.2 q2).2 q5)))))))))) ⟨fun z0 => (it_t (P := fun x => Q (.inl (some (.int x))) h) z0 k), fun z0 => ⟨fun z1 => (it_t (P := fun x => Q (.inl (some (.int x))) h) z1 (it_f (P := fun x => Q (.inl (some (.int x))) h) z0 k)), fun z1 => (it_f (P := fun x => Q (.inl (some (.int x))) h) z1 (it_f (P := fun x => Q (.inl (some (.int x))) h) z0 k))⟩⟩))
theorem dX11_cellOf_0 : decode cX11_cellOf 0 = .ok (.bipush 27, 2) := by decide +kernel
theorem dX11_cellOf_2 : decode cX11_cellOf 2 = .ok (.iload_n 1, 1) := by decide +kernel
theorem dX11_cellOf_3 : decode cX11_cellOf 3 = .ok (.sipush 260, 3) := by decide +kernel
theorem dX11_cellOf_6 : decode cX11_cellOf 6 = .ok (.iadd, 1) := by decide +kernel
theorem dX11_cellOf_7 : decode cX11_cellOf 7 = .ok (.bipush 20, 2) := by decide +kernel
theorem dX11_cellOf_9 : decode cX11_cellOf 9 = .ok (.idiv, 1) := by decide +kernel
theorem dX11_cellOf_10 : decode cX11_cellOf 10 = .ok (.imul, 1) := by decide +kernel
theorem dX11_cellOf_11 : decode cX11_cellOf 11 = .ok (.iload_n 0, 1) := by decide +kernel
theorem dX11_cellOf_12 : decode cX11_cellOf 12 = .ok (.sipush 260, 3) := by decide +kernel
theorem dX11_cellOf_15 : decode cX11_cellOf 15 = .ok (.iadd, 1) := by decide +kernel
theorem dX11_cellOf_16 : decode cX11_cellOf 16 = .ok (.bipush 20, 2) := by decide +kernel
theorem dX11_cellOf_18 : decode cX11_cellOf 18 = .ok (.idiv, 1) := by decide +kernel
theorem dX11_cellOf_19 : decode cX11_cellOf 19 = .ok (.iadd, 1) := by decide +kernel
theorem dX11_cellOf_20 : decode cX11_cellOf 20 = .ok (.ireturn, 1) := by decide +kernel
def fX11_cellOf (v0 : Int32) (v1 : Int32) : Int32 := (27 * ((v1 + 260) / (20 : Int32))) + ((v0 + 260) / (20 : Int32))
theorem mX11_cellOf {G : GX} {h : mH} {Q : mO → mH → Prop} {v0 : Int32} {v1 : Int32} (k : Q (.inl (some (.int (fX11_cellOf v0 v1)))) h) : WM G jX11_cellOf [.int v0, .int v1] h Q :=
  WM.body (ls := [some (.int v0), some (.int v1)]) rfl (by decide +kernel) rfl (Nat.le_of_ble_eq_true rfl) rfl (((fun (K : Q (.inl (some (.int ((27 * ((v1 + 260) / (20 : Int32))) + ((v0 + 260) / (20 : Int32)))))) h) => show Vw G jX11_cellOf 0 [some (.int v0), some (.int v1)] [] h Q from s_bipush 27 dX11_cellOf_0 (by decide) (s_iload_n dX11_cellOf_2 rfl (s_sipush 260 dX11_cellOf_3 (by decide) (s_iadd dX11_cellOf_6 (s_bipush 20 dX11_cellOf_7 (by decide) (s_idiv dX11_cellOf_9 (by decide) (s_imul dX11_cellOf_10 (s_iload_n dX11_cellOf_11 rfl (s_sipush 260 dX11_cellOf_12 (by decide) (s_iadd dX11_cellOf_15 (s_bipush 20 dX11_cellOf_16 (by decide) (s_idiv dX11_cellOf_18 (by decide) (s_iadd dX11_cellOf_19 (s_ireturn dX11_cellOf_20 rfl K)))))))))))))) k))
theorem dX11_becomes_0 : decode cX11_becomes 0 = .ok (.iload_n 0, 1) := by decide +kernel
theorem dX11_becomes_1 : decode cX11_becomes 1 = .ok (.iconst 2, 1) := by decide +kernel
theorem dX11_becomes_2 : decode cX11_becomes 2 = .ok (.idiv, 1) := by decide +kernel
theorem dX11_becomes_3 : decode cX11_becomes 3 = .ok (.iload_n 1, 1) := by decide +kernel
theorem dX11_becomes_4 : decode cX11_becomes 4 = .ok (.iconst 1, 1) := by decide +kernel
theorem dX11_becomes_5 : decode cX11_becomes 5 = .ok (.iand, 1) := by decide +kernel
theorem dX11_becomes_6 : decode cX11_becomes 6 = .ok (.ixor, 1) := by decide +kernel
theorem dX11_becomes_7 : decode cX11_becomes 7 = .ok (.istore_n 2, 1) := by decide +kernel
theorem dX11_becomes_8 : decode cX11_becomes 8 = .ok (.iload_n 2, 1) := by decide +kernel
theorem dX11_becomes_9 : decode cX11_becomes 9 = .ok (.ifCond .ne 11, 3) := by decide +kernel
theorem dX11_becomes_12 : decode cX11_becomes 12 = .ok (.iload_n 1, 1) := by decide +kernel
theorem dX11_becomes_13 : decode cX11_becomes 13 = .ok (.iconst 1, 1) := by decide +kernel
theorem dX11_becomes_14 : decode cX11_becomes 14 = .ok (.ishr, 1) := by decide +kernel
theorem dX11_becomes_15 : decode cX11_becomes 15 = .ok (.iconst 1, 1) := by decide +kernel
theorem dX11_becomes_16 : decode cX11_becomes 16 = .ok (.iand, 1) := by decide +kernel
theorem dX11_becomes_17 : decode cX11_becomes 17 = .ok (.goto 8, 3) := by decide +kernel
theorem dX11_becomes_20 : decode cX11_becomes 20 = .ok (.iload_n 1, 1) := by decide +kernel
theorem dX11_becomes_21 : decode cX11_becomes 21 = .ok (.iconst 2, 1) := by decide +kernel
theorem dX11_becomes_22 : decode cX11_becomes 22 = .ok (.ishr, 1) := by decide +kernel
theorem dX11_becomes_23 : decode cX11_becomes 23 = .ok (.iconst 1, 1) := by decide +kernel
theorem dX11_becomes_24 : decode cX11_becomes 24 = .ok (.iand, 1) := by decide +kernel
theorem dX11_becomes_25 : decode cX11_becomes 25 = .ok (.istore_n 3, 1) := by decide +kernel
theorem dX11_becomes_26 : decode cX11_becomes 26 = .ok (.iconst 2, 1) := by decide +kernel
theorem dX11_becomes_27 : decode cX11_becomes 27 = .ok (.iload_n 2, 1) := by decide +kernel
theorem dX11_becomes_28 : decode cX11_becomes 28 = .ok (.imul, 1) := by decide +kernel
theorem dX11_becomes_29 : decode cX11_becomes 29 = .ok (.iload_n 0, 1) := by decide +kernel
theorem dX11_becomes_30 : decode cX11_becomes 30 = .ok (.iconst 2, 1) := by decide +kernel
theorem dX11_becomes_31 : decode cX11_becomes 31 = .ok (.irem, 1) := by decide +kernel
theorem dX11_becomes_32 : decode cX11_becomes 32 = .ok (.iload_n 3, 1) := by decide +kernel
theorem dX11_becomes_33 : decode cX11_becomes 33 = .ok (.ixor, 1) := by decide +kernel
theorem dX11_becomes_34 : decode cX11_becomes 34 = .ok (.iadd, 1) := by decide +kernel
theorem dX11_becomes_35 : decode cX11_becomes 35 = .ok (.ireturn, 1) := by decide +kernel
def fX11_becomes (v0 : Int32) (v1 : Int32) : Int32 := if ((v0 / (2 : Int32)) ^^^ (v1 &&& (1 : Int32))) = 0 then (2 * ((v0 / (2 : Int32)) ^^^ (v1 &&& (1 : Int32)))) + ((v0 - v0 / (2 : Int32) * (2 : Int32)) ^^^ ((v1 >>> ((1 : Int32) &&& 31)) &&& (1 : Int32))) else (2 * ((v0 / (2 : Int32)) ^^^ (v1 &&& (1 : Int32)))) + ((v0 - v0 / (2 : Int32) * (2 : Int32)) ^^^ ((v1 >>> ((2 : Int32) &&& 31)) &&& (1 : Int32)))
theorem mX11_becomes {G : GX} {h : mH} {Q : mO → mH → Prop} {v0 : Int32} {v1 : Int32} (k : Q (.inl (some (.int (fX11_becomes v0 v1)))) h) : WM G jX11_becomes [.int v0, .int v1] h Q :=
  WM.body (ls := [some (.int v0), some (.int v1), none, none]) rfl (by decide +kernel) rfl (Nat.le_of_ble_eq_true rfl) rfl (((fun (K : (¬ ((v0 / (2 : Int32)) ^^^ (v1 &&& (1 : Int32))) = 0 → Q (.inl (some (.int ((2 * ((v0 / (2 : Int32)) ^^^ (v1 &&& (1 : Int32)))) + ((v0 - v0 / (2 : Int32) * (2 : Int32)) ^^^ ((v1 >>> ((2 : Int32) &&& 31)) &&& (1 : Int32))))))) h) ∧ (((v0 / (2 : Int32)) ^^^ (v1 &&& (1 : Int32))) = 0 → Q (.inl (some (.int ((2 * ((v0 / (2 : Int32)) ^^^ (v1 &&& (1 : Int32)))) + ((v0 - v0 / (2 : Int32) * (2 : Int32)) ^^^ ((v1 >>> ((1 : Int32) &&& 31)) &&& (1 : Int32))))))) h)) => show Vw G jX11_becomes 0 [some (.int v0), some (.int v1), none, none] [] h Q from s_iload_n dX11_becomes_0 rfl (s_iconst 2 dX11_becomes_1 (by decide) (s_idiv dX11_becomes_2 (by decide) (s_iload_n dX11_becomes_3 rfl (s_iconst 1 dX11_becomes_4 (by decide) (s_iand dX11_becomes_5 (s_ixor dX11_becomes_6 (s_istore_n dX11_becomes_7 (Nat.le_of_ble_eq_true rfl) rfl (s_iload_n dX11_becomes_8 rfl (s_if_ne 20 dX11_becomes_9 rfl (fun q9 => s_iload_n dX11_becomes_20 rfl (s_iconst 2 dX11_becomes_21 (by decide) (s_ishr dX11_becomes_22 (s_iconst 1 dX11_becomes_23 (by decide) (s_iand dX11_becomes_24 (s_istore_n dX11_becomes_25 (Nat.le_of_ble_eq_true rfl) rfl (s_iconst 2 dX11_becomes_26 (by decide) (s_iload_n dX11_becomes_27 rfl (s_imul dX11_becomes_28 (s_iload_n dX11_becomes_29 rfl (s_iconst 2 dX11_becomes_30 (by decide) (s_irem dX11_becomes_31 (by decide) (s_iload_n dX11_becomes_32 rfl (s_ixor dX11_becomes_33 (s_iadd dX11_becomes_34 (s_ireturn dX11_becomes_35 rfl (K.1 q9))))))))))))))))) (fun q9 => s_iload_n dX11_becomes_12 rfl (s_iconst 1 dX11_becomes_13 (by decide) (s_ishr dX11_becomes_14 (s_iconst 1 dX11_becomes_15 (by decide) (s_iand dX11_becomes_16 (s_goto 25 dX11_becomes_17 rfl (s_istore_n dX11_becomes_25 (Nat.le_of_ble_eq_true rfl) rfl (s_iconst 2 dX11_becomes_26 (by decide) (s_iload_n dX11_becomes_27 rfl (s_imul dX11_becomes_28 (s_iload_n dX11_becomes_29 rfl (s_iconst 2 dX11_becomes_30 (by decide) (s_irem dX11_becomes_31 (by decide) (s_iload_n dX11_becomes_32 rfl (s_ixor dX11_becomes_33 (s_iadd dX11_becomes_34 (s_ireturn dX11_becomes_35 rfl (K.2 q9)))))))))))))))))))))))))))) ⟨fun z0 => (it_f (P := fun x => Q (.inl (some (.int x))) h) z0 k), fun z0 => (it_t (P := fun x => Q (.inl (some (.int x))) h) z0 k)⟩))
theorem dX11_between_0 : decode cX11_between 0 = .ok (.iload_n 0, 1) := by decide +kernel
theorem dX11_between_1 : decode cX11_between 1 = .ok (.ifCond .ge 7, 3) := by decide +kernel
theorem dX11_between_4 : decode cX11_between 4 = .ok (.iconst 0, 1) := by decide +kernel
theorem dX11_between_5 : decode cX11_between 5 = .ok (.goto 13, 3) := by decide +kernel
theorem dX11_between_8 : decode cX11_between 8 = .ok (.iload_n 0, 1) := by decide +kernel
theorem dX11_between_9 : decode cX11_between 9 = .ok (.iload_n 1, 1) := by decide +kernel
theorem dX11_between_10 : decode cX11_between 10 = .ok (.if_icmp .le 7, 3) := by decide +kernel
theorem dX11_between_13 : decode cX11_between 13 = .ok (.iload_n 1, 1) := by decide +kernel
theorem dX11_between_14 : decode cX11_between 14 = .ok (.goto 4, 3) := by decide +kernel
theorem dX11_between_17 : decode cX11_between 17 = .ok (.iload_n 0, 1) := by decide +kernel
theorem dX11_between_18 : decode cX11_between 18 = .ok (.ireturn, 1) := by decide +kernel
def fX11_between (v0 : Int32) (v1 : Int32) : Int32 := if 0 ≤ v0 then if v0 ≤ v1 then v0 else v1 else 0
theorem mX11_between {G : GX} {h : mH} {Q : mO → mH → Prop} {v0 : Int32} {v1 : Int32} (k : Q (.inl (some (.int (fX11_between v0 v1)))) h) : WM G jX11_between [.int v0, .int v1] h Q :=
  WM.body (ls := [some (.int v0), some (.int v1)]) rfl (by decide +kernel) rfl (Nat.le_of_ble_eq_true rfl) rfl (((fun (K : (0 ≤ v0 → ((v0 ≤ v1 → Q (.inl (some (.int v0))) h) ∧ (¬ v0 ≤ v1 → Q (.inl (some (.int v1))) h))) ∧ (¬ 0 ≤ v0 → Q (.inl (some (.int 0))) h)) => show Vw G jX11_between 0 [some (.int v0), some (.int v1)] [] h Q from s_iload_n dX11_between_0 rfl (s_if_ge 8 dX11_between_1 rfl (fun q1 => s_iload_n dX11_between_8 rfl (s_iload_n dX11_between_9 rfl (s_icmp_le 17 dX11_between_10 rfl (fun q4 => s_iload_n dX11_between_17 rfl (s_ireturn dX11_between_18 rfl ((K.1 q1).1 q4))) (fun q4 => s_iload_n dX11_between_13 rfl (s_goto 18 dX11_between_14 rfl (s_ireturn dX11_between_18 rfl ((K.1 q1).2 q4))))))) (fun q1 => s_iconst 0 dX11_between_4 (by decide) (s_goto 18 dX11_between_5 rfl (s_ireturn dX11_between_18 rfl (K.2 q1)))))) ⟨fun z0 => ⟨fun z1 => (it_t (P := fun x => Q (.inl (some (.int x))) h) z1 (it_t (P := fun x => Q (.inl (some (.int x))) h) z0 k)), fun z1 => (it_f (P := fun x => Q (.inl (some (.int x))) h) z1 (it_t (P := fun x => Q (.inl (some (.int x))) h) z0 k))⟩, fun z0 => (it_f (P := fun x => Q (.inl (some (.int x))) h) z0 k)⟩))
theorem dX11_isGood_0 : decode cX11_isGood 0 = .ok (.aload_n 0, 1) := by decide +kernel
theorem dX11_isGood_1 : decode cX11_isGood 1 = .ok (.getfield 169, 3) := by decide +kernel
theorem dX11_isGood_4 : decode cX11_isGood 4 = .ok (.ifCond .ne 7, 3) := by decide +kernel
theorem dX11_isGood_7 : decode cX11_isGood 7 = .ok (.iconst 1, 1) := by decide +kernel
theorem dX11_isGood_8 : decode cX11_isGood 8 = .ok (.goto 4, 3) := by decide +kernel
theorem dX11_isGood_11 : decode cX11_isGood 11 = .ok (.iconst 0, 1) := by decide +kernel
theorem dX11_isGood_12 : decode cX11_isGood 12 = .ok (.ireturn, 1) := by decide +kernel
def fX11_isGood (h : mH) : Int32 := if (gI h 83 10) = 0 then 1 else 0
theorem mX11_isGood {G : GX} {h : mH} {Q : mO → mH → Prop} (hi : Iv h) (k : Q (.inl (some (.int (fX11_isGood h)))) h) : WM G jX11_isGood [.ref 83] h Q :=
  WM.body (ls := [some (.ref 83)]) rfl (by decide +kernel) rfl (Nat.le_of_ble_eq_true rfl) rfl (((fun (K : (¬ (gI h 83 10) = 0 → Q (.inl (some (.int 0))) h) ∧ ((gI h 83 10) = 0 → Q (.inl (some (.int 1))) h)) => show Vw G jX11_isGood 0 [some (.ref 83)] [] h Q from s_aload_n dX11_isGood_0 rfl (s_getI dX11_isGood_1 flX11_169 (Or.inl rfl) (hi.sh rfl rfl) (s_if_ne 11 dX11_isGood_4 rfl (fun q2 => s_iconst 0 dX11_isGood_11 (by decide) (s_zreturn dX11_isGood_12 rfl (by decide) (K.1 q2))) (fun q2 => s_iconst 1 dX11_isGood_7 (by decide) (s_goto 12 dX11_isGood_8 rfl (s_zreturn dX11_isGood_12 rfl (by decide) (K.2 q2))))))) ⟨fun z0 => (it_f (P := fun x => Q (.inl (some (.int x))) h) z0 k), fun z0 => (it_t (P := fun x => Q (.inl (some (.int x))) h) z0 k)⟩))
theorem dX11_isSign_0 : decode cX11_isSign 0 = .ok (.aload_n 0, 1) := by decide +kernel
theorem dX11_isSign_1 : decode cX11_isSign 1 = .ok (.getfield 146, 3) := by decide +kernel
theorem dX11_isSign_4 : decode cX11_isSign 4 = .ok (.iconst 3, 1) := by decide +kernel
theorem dX11_isSign_5 : decode cX11_isSign 5 = .ok (.if_icmp .ne 15, 3) := by decide +kernel
theorem dX11_isSign_8 : decode cX11_isSign 8 = .ok (.aload_n 0, 1) := by decide +kernel
theorem dX11_isSign_9 : decode cX11_isSign 9 = .ok (.getfield 143, 3) := by decide +kernel
theorem dX11_isSign_12 : decode cX11_isSign 12 = .ok (.iload_n 1, 1) := by decide +kernel
theorem dX11_isSign_13 : decode cX11_isSign 13 = .ok (.if_icmp .ne 7, 3) := by decide +kernel
theorem dX11_isSign_16 : decode cX11_isSign 16 = .ok (.iconst 1, 1) := by decide +kernel
theorem dX11_isSign_17 : decode cX11_isSign 17 = .ok (.goto 4, 3) := by decide +kernel
theorem dX11_isSign_20 : decode cX11_isSign 20 = .ok (.iconst 0, 1) := by decide +kernel
theorem dX11_isSign_21 : decode cX11_isSign 21 = .ok (.ireturn, 1) := by decide +kernel
def fX11_isSign (h : mH) (v1 : Int32) : Int32 := if (gI h 83 15) = 3 then if (gI h 83 19) = v1 then 1 else 0 else 0
theorem mX11_isSign {G : GX} {h : mH} {Q : mO → mH → Prop} {v1 : Int32} (hi : Iv h) (k : Q (.inl (some (.int (fX11_isSign h v1)))) h) : WM G jX11_isSign [.ref 83, .int v1] h Q :=
  WM.body (ls := [some (.ref 83), some (.int v1)]) rfl (by decide +kernel) rfl (Nat.le_of_ble_eq_true rfl) rfl (((fun (K : (¬ (gI h 83 15) = 3 → Q (.inl (some (.int 0))) h) ∧ ((gI h 83 15) = 3 → ((¬ (gI h 83 19) = v1 → Q (.inl (some (.int 0))) h) ∧ ((gI h 83 19) = v1 → Q (.inl (some (.int 1))) h)))) => show Vw G jX11_isSign 0 [some (.ref 83), some (.int v1)] [] h Q from s_aload_n dX11_isSign_0 rfl (s_getI dX11_isSign_1 flX11_146 (Or.inl rfl) (hi.sh rfl rfl) (s_iconst 3 dX11_isSign_4 (by decide) (s_icmp_ne 20 dX11_isSign_5 rfl (fun q3 => s_iconst 0 dX11_isSign_20 (by decide) (s_zreturn dX11_isSign_21 rfl (by decide) (K.1 q3))) (fun q3 => s_aload_n dX11_isSign_8 rfl (s_getI dX11_isSign_9 flX11_143 (Or.inl rfl) (hi.sh rfl rfl) (s_iload_n dX11_isSign_12 rfl (s_icmp_ne 20 dX11_isSign_13 rfl (fun q7 => s_iconst 0 dX11_isSign_20 (by decide) (s_zreturn dX11_isSign_21 rfl (by decide) ((K.2 q3).1 q7))) (fun q7 => s_iconst 1 dX11_isSign_16 (by decide) (s_goto 21 dX11_isSign_17 rfl (s_zreturn dX11_isSign_21 rfl (by decide) ((K.2 q3).2 q7)))))))))))) ⟨fun z0 => (it_f (P := fun x => Q (.inl (some (.int x))) h) z0 k), fun z0 => ⟨fun z1 => (it_f (P := fun x => Q (.inl (some (.int x))) h) z1 (it_t (P := fun x => Q (.inl (some (.int x))) h) z0 k)), fun z1 => (it_t (P := fun x => Q (.inl (some (.int x))) h) z1 (it_t (P := fun x => Q (.inl (some (.int x))) h) z0 k))⟩⟩))
theorem dX9_isBlank_0 : decode cX9_isBlank 0 = .ok (.iload_n 0, 1) := by decide +kernel
theorem dX9_isBlank_1 : decode cX9_isBlank 1 = .ok (.bipush 32, 2) := by decide +kernel
theorem dX9_isBlank_3 : decode cX9_isBlank 3 = .ok (.if_icmp .eq 9, 3) := by decide +kernel
theorem dX9_isBlank_6 : decode cX9_isBlank 6 = .ok (.iload_n 0, 1) := by decide +kernel
theorem dX9_isBlank_7 : decode cX9_isBlank 7 = .ok (.bipush 10, 2) := by decide +kernel
theorem dX9_isBlank_9 : decode cX9_isBlank 9 = .ok (.if_icmp .ne 7, 3) := by decide +kernel
theorem dX9_isBlank_12 : decode cX9_isBlank 12 = .ok (.iconst 1, 1) := by decide +kernel
theorem dX9_isBlank_13 : decode cX9_isBlank 13 = .ok (.goto 4, 3) := by decide +kernel
theorem dX9_isBlank_16 : decode cX9_isBlank 16 = .ok (.iconst 0, 1) := by decide +kernel
theorem dX9_isBlank_17 : decode cX9_isBlank 17 = .ok (.ireturn, 1) := by decide +kernel
def fX9_isBlank (v0 : Int32) : Int32 := if v0 = 32 then 1 else if v0 = 10 then 1 else 0
theorem mX9_isBlank {G : GX} {h : mH} {Q : mO → mH → Prop} {v0 : Int32} (k : Q (.inl (some (.int (fX9_isBlank v0)))) h) : WM G jX9_isBlank [.int v0] h Q :=
  WM.body (ls := [some (.int v0)]) rfl (by decide +kernel) rfl (Nat.le_of_ble_eq_true rfl) rfl (((fun (K : (v0 = 32 → Q (.inl (some (.int 1))) h) ∧ (¬ v0 = 32 → ((¬ v0 = 10 → Q (.inl (some (.int 0))) h) ∧ (v0 = 10 → Q (.inl (some (.int 1))) h)))) => show Vw G jX9_isBlank 0 [some (.int v0)] [] h Q from s_iload_n dX9_isBlank_0 rfl (s_bipush 32 dX9_isBlank_1 (by decide) (s_icmp_eq 12 dX9_isBlank_3 rfl (fun q2 => s_iconst 1 dX9_isBlank_12 (by decide) (s_goto 17 dX9_isBlank_13 rfl (s_zreturn dX9_isBlank_17 rfl (by decide) (K.1 q2)))) (fun q2 => s_iload_n dX9_isBlank_6 rfl (s_bipush 10 dX9_isBlank_7 (by decide) (s_icmp_ne 16 dX9_isBlank_9 rfl (fun q5 => s_iconst 0 dX9_isBlank_16 (by decide) (s_zreturn dX9_isBlank_17 rfl (by decide) ((K.2 q2).1 q5))) (fun q5 => s_iconst 1 dX9_isBlank_12 (by decide) (s_goto 17 dX9_isBlank_13 rfl (s_zreturn dX9_isBlank_17 rfl (by decide) ((K.2 q2).2 q5)))))))))) ⟨fun z0 => (it_t (P := fun x => Q (.inl (some (.int x))) h) z0 k), fun z0 => ⟨fun z1 => (it_f (P := fun x => Q (.inl (some (.int x))) h) z1 (it_f (P := fun x => Q (.inl (some (.int x))) h) z0 k)), fun z1 => (it_t (P := fun x => Q (.inl (some (.int x))) h) z1 (it_f (P := fun x => Q (.inl (some (.int x))) h) z0 k))⟩⟩))
theorem dX9_isLetter_0 : decode cX9_isLetter 0 = .ok (.iload_n 0, 1) := by decide +kernel
theorem dX9_isLetter_1 : decode cX9_isLetter 1 = .ok (.bipush 97, 2) := by decide +kernel
theorem dX9_isLetter_3 : decode cX9_isLetter 3 = .ok (.if_icmp .lt 13, 3) := by decide +kernel
theorem dX9_isLetter_6 : decode cX9_isLetter 6 = .ok (.iload_n 0, 1) := by decide +kernel
theorem dX9_isLetter_7 : decode cX9_isLetter 7 = .ok (.bipush 122, 2) := by decide +kernel
theorem dX9_isLetter_9 : decode cX9_isLetter 9 = .ok (.if_icmp .gt 7, 3) := by decide +kernel
theorem dX9_isLetter_12 : decode cX9_isLetter 12 = .ok (.iconst 1, 1) := by decide +kernel
theorem dX9_isLetter_13 : decode cX9_isLetter 13 = .ok (.goto 4, 3) := by decide +kernel
theorem dX9_isLetter_16 : decode cX9_isLetter 16 = .ok (.iconst 0, 1) := by decide +kernel
theorem dX9_isLetter_17 : decode cX9_isLetter 17 = .ok (.ireturn, 1) := by decide +kernel
def fX9_isLetter (v0 : Int32) : Int32 := if v0 < 97 then 0 else if 122 < v0 then 0 else 1
theorem mX9_isLetter {G : GX} {h : mH} {Q : mO → mH → Prop} {v0 : Int32} (k : Q (.inl (some (.int (fX9_isLetter v0)))) h) : WM G jX9_isLetter [.int v0] h Q :=
  WM.body (ls := [some (.int v0)]) rfl (by decide +kernel) rfl (Nat.le_of_ble_eq_true rfl) rfl (((fun (K : (v0 < 97 → Q (.inl (some (.int 0))) h) ∧ (¬ v0 < 97 → ((122 < v0 → Q (.inl (some (.int 0))) h) ∧ (¬ 122 < v0 → Q (.inl (some (.int 1))) h)))) => show Vw G jX9_isLetter 0 [some (.int v0)] [] h Q from s_iload_n dX9_isLetter_0 rfl (s_bipush 97 dX9_isLetter_1 (by decide) (s_icmp_lt 16 dX9_isLetter_3 rfl (fun q2 => s_iconst 0 dX9_isLetter_16 (by decide) (s_zreturn dX9_isLetter_17 rfl (by decide) (K.1 q2))) (fun q2 => s_iload_n dX9_isLetter_6 rfl (s_bipush 122 dX9_isLetter_7 (by decide) (s_icmp_gt 16 dX9_isLetter_9 rfl (fun q5 => s_iconst 0 dX9_isLetter_16 (by decide) (s_zreturn dX9_isLetter_17 rfl (by decide) ((K.2 q2).1 q5))) (fun q5 => s_iconst 1 dX9_isLetter_12 (by decide) (s_goto 17 dX9_isLetter_13 rfl (s_zreturn dX9_isLetter_17 rfl (by decide) ((K.2 q2).2 q5)))))))))) ⟨fun z0 => (it_t (P := fun x => Q (.inl (some (.int x))) h) z0 k), fun z0 => ⟨fun z1 => (it_t (P := fun x => Q (.inl (some (.int x))) h) z1 (it_f (P := fun x => Q (.inl (some (.int x))) h) z0 k)), fun z1 => (it_f (P := fun x => Q (.inl (some (.int x))) h) z1 (it_f (P := fun x => Q (.inl (some (.int x))) h) z0 k))⟩⟩))
theorem dX9_isDigit_0 : decode cX9_isDigit 0 = .ok (.iload_n 0, 1) := by decide +kernel
theorem dX9_isDigit_1 : decode cX9_isDigit 1 = .ok (.bipush 48, 2) := by decide +kernel
theorem dX9_isDigit_3 : decode cX9_isDigit 3 = .ok (.if_icmp .lt 13, 3) := by decide +kernel
theorem dX9_isDigit_6 : decode cX9_isDigit 6 = .ok (.iload_n 0, 1) := by decide +kernel
theorem dX9_isDigit_7 : decode cX9_isDigit 7 = .ok (.bipush 57, 2) := by decide +kernel
theorem dX9_isDigit_9 : decode cX9_isDigit 9 = .ok (.if_icmp .gt 7, 3) := by decide +kernel
theorem dX9_isDigit_12 : decode cX9_isDigit 12 = .ok (.iconst 1, 1) := by decide +kernel
theorem dX9_isDigit_13 : decode cX9_isDigit 13 = .ok (.goto 4, 3) := by decide +kernel
theorem dX9_isDigit_16 : decode cX9_isDigit 16 = .ok (.iconst 0, 1) := by decide +kernel
theorem dX9_isDigit_17 : decode cX9_isDigit 17 = .ok (.ireturn, 1) := by decide +kernel
def fX9_isDigit (v0 : Int32) : Int32 := if v0 < 48 then 0 else if 57 < v0 then 0 else 1
theorem mX9_isDigit {G : GX} {h : mH} {Q : mO → mH → Prop} {v0 : Int32} (k : Q (.inl (some (.int (fX9_isDigit v0)))) h) : WM G jX9_isDigit [.int v0] h Q :=
  WM.body (ls := [some (.int v0)]) rfl (by decide +kernel) rfl (Nat.le_of_ble_eq_true rfl) rfl (((fun (K : (v0 < 48 → Q (.inl (some (.int 0))) h) ∧ (¬ v0 < 48 → ((57 < v0 → Q (.inl (some (.int 0))) h) ∧ (¬ 57 < v0 → Q (.inl (some (.int 1))) h)))) => show Vw G jX9_isDigit 0 [some (.int v0)] [] h Q from s_iload_n dX9_isDigit_0 rfl (s_bipush 48 dX9_isDigit_1 (by decide) (s_icmp_lt 16 dX9_isDigit_3 rfl (fun q2 => s_iconst 0 dX9_isDigit_16 (by decide) (s_zreturn dX9_isDigit_17 rfl (by decide) (K.1 q2))) (fun q2 => s_iload_n dX9_isDigit_6 rfl (s_bipush 57 dX9_isDigit_7 (by decide) (s_icmp_gt 16 dX9_isDigit_9 rfl (fun q5 => s_iconst 0 dX9_isDigit_16 (by decide) (s_zreturn dX9_isDigit_17 rfl (by decide) ((K.2 q2).1 q5))) (fun q5 => s_iconst 1 dX9_isDigit_12 (by decide) (s_goto 17 dX9_isDigit_13 rfl (s_zreturn dX9_isDigit_17 rfl (by decide) ((K.2 q2).2 q5)))))))))) ⟨fun z0 => (it_t (P := fun x => Q (.inl (some (.int x))) h) z0 k), fun z0 => ⟨fun z1 => (it_t (P := fun x => Q (.inl (some (.int x))) h) z1 (it_f (P := fun x => Q (.inl (some (.int x))) h) z0 k)), fun z1 => (it_f (P := fun x => Q (.inl (some (.int x))) h) z1 (it_f (P := fun x => Q (.inl (some (.int x))) h) z0 k))⟩⟩))
theorem dX9_isEnd_0 : decode cX9_isEnd 0 = .ok (.aload_n 0, 1) := by decide +kernel
theorem dX9_isEnd_1 : decode cX9_isEnd 1 = .ok (.getfield 50, 3) := by decide +kernel
theorem dX9_isEnd_4 : decode cX9_isEnd 4 = .ok (.ifCond .ne 7, 3) := by decide +kernel
theorem dX9_isEnd_7 : decode cX9_isEnd 7 = .ok (.iconst 1, 1) := by decide +kernel
theorem dX9_isEnd_8 : decode cX9_isEnd 8 = .ok (.goto 4, 3) := by decide +kernel
theorem dX9_isEnd_11 : decode cX9_isEnd 11 = .ok (.iconst 0, 1) := by decide +kernel
theorem dX9_isEnd_12 : decode cX9_isEnd 12 = .ok (.ireturn, 1) := by decide +kernel
def fX9_isEnd (h : mH) : Int32 := if (gI h 1 7) = 0 then 1 else 0
theorem mX9_isEnd {G : GX} {h : mH} {Q : mO → mH → Prop} (hi : Iv h) (k : Q (.inl (some (.int (fX9_isEnd h)))) h) : WM G jX9_isEnd [.ref 1] h Q :=
  WM.body (ls := [some (.ref 1)]) rfl (by decide +kernel) rfl (Nat.le_of_ble_eq_true rfl) rfl (((fun (K : (¬ (gI h 1 7) = 0 → Q (.inl (some (.int 0))) h) ∧ ((gI h 1 7) = 0 → Q (.inl (some (.int 1))) h)) => show Vw G jX9_isEnd 0 [some (.ref 1)] [] h Q from s_aload_n dX9_isEnd_0 rfl (s_getI dX9_isEnd_1 flX9_50 (Or.inl rfl) (hi.sh rfl rfl) (s_if_ne 11 dX9_isEnd_4 rfl (fun q2 => s_iconst 0 dX9_isEnd_11 (by decide) (s_zreturn dX9_isEnd_12 rfl (by decide) (K.1 q2))) (fun q2 => s_iconst 1 dX9_isEnd_7 (by decide) (s_goto 12 dX9_isEnd_8 rfl (s_zreturn dX9_isEnd_12 rfl (by decide) (K.2 q2))))))) ⟨fun z0 => (it_f (P := fun x => Q (.inl (some (.int x))) h) z0 k), fun z0 => (it_t (P := fun x => Q (.inl (some (.int x))) h) z0 k)⟩))
theorem dX9_isSign_0 : decode cX9_isSign 0 = .ok (.aload_n 0, 1) := by decide +kernel
theorem dX9_isSign_1 : decode cX9_isSign 1 = .ok (.getfield 50, 3) := by decide +kernel
theorem dX9_isSign_4 : decode cX9_isSign 4 = .ok (.iconst 3, 1) := by decide +kernel
theorem dX9_isSign_5 : decode cX9_isSign 5 = .ok (.if_icmp .ne 15, 3) := by decide +kernel
theorem dX9_isSign_8 : decode cX9_isSign 8 = .ok (.aload_n 0, 1) := by decide +kernel
theorem dX9_isSign_9 : decode cX9_isSign 9 = .ok (.getfield 59, 3) := by decide +kernel
theorem dX9_isSign_12 : decode cX9_isSign 12 = .ok (.iload_n 1, 1) := by decide +kernel
theorem dX9_isSign_13 : decode cX9_isSign 13 = .ok (.if_icmp .ne 7, 3) := by decide +kernel
theorem dX9_isSign_16 : decode cX9_isSign 16 = .ok (.iconst 1, 1) := by decide +kernel
theorem dX9_isSign_17 : decode cX9_isSign 17 = .ok (.goto 4, 3) := by decide +kernel
theorem dX9_isSign_20 : decode cX9_isSign 20 = .ok (.iconst 0, 1) := by decide +kernel
theorem dX9_isSign_21 : decode cX9_isSign 21 = .ok (.ireturn, 1) := by decide +kernel
def fX9_isSign (h : mH) (v1 : Int32) : Int32 := if (gI h 1 7) = 3 then if (gI h 1 9) = v1 then 1 else 0 else 0
theorem mX9_isSign {G : GX} {h : mH} {Q : mO → mH → Prop} {v1 : Int32} (hi : Iv h) (k : Q (.inl (some (.int (fX9_isSign h v1)))) h) : WM G jX9_isSign [.ref 1, .int v1] h Q :=
  WM.body (ls := [some (.ref 1), some (.int v1)]) rfl (by decide +kernel) rfl (Nat.le_of_ble_eq_true rfl) rfl (((fun (K : (¬ (gI h 1 7) = 3 → Q (.inl (some (.int 0))) h) ∧ ((gI h 1 7) = 3 → ((¬ (gI h 1 9) = v1 → Q (.inl (some (.int 0))) h) ∧ ((gI h 1 9) = v1 → Q (.inl (some (.int 1))) h)))) => show Vw G jX9_isSign 0 [some (.ref 1), some (.int v1)] [] h Q from s_aload_n dX9_isSign_0 rfl (s_getI dX9_isSign_1 flX9_50 (Or.inl rfl) (hi.sh rfl rfl) (s_iconst 3 dX9_isSign_4 (by decide) (s_icmp_ne 20 dX9_isSign_5 rfl (fun q3 => s_iconst 0 dX9_isSign_20 (by decide) (s_zreturn dX9_isSign_21 rfl (by decide) (K.1 q3))) (fun q3 => s_aload_n dX9_isSign_8 rfl (s_getI dX9_isSign_9 flX9_59 (Or.inl rfl) (hi.sh rfl rfl) (s_iload_n dX9_isSign_12 rfl (s_icmp_ne 20 dX9_isSign_13 rfl (fun q7 => s_iconst 0 dX9_isSign_20 (by decide) (s_zreturn dX9_isSign_21 rfl (by decide) ((K.2 q3).1 q7))) (fun q7 => s_iconst 1 dX9_isSign_16 (by decide) (s_goto 21 dX9_isSign_17 rfl (s_zreturn dX9_isSign_21 rfl (by decide) ((K.2 q3).2 q7)))))))))))) ⟨fun z0 => (it_f (P := fun x => Q (.inl (some (.int x))) h) z0 k), fun z0 => ⟨fun z1 => (it_f (P := fun x => Q (.inl (some (.int x))) h) z1 (it_t (P := fun x => Q (.inl (some (.int x))) h) z0 k)), fun z1 => (it_t (P := fun x => Q (.inl (some (.int x))) h) z1 (it_t (P := fun x => Q (.inl (some (.int x))) h) z0 k))⟩⟩))
theorem dX9_hasRoom_0 : decode cX9_hasRoom 0 = .ok (.aload_n 0, 1) := by decide +kernel
theorem dX9_hasRoom_1 : decode cX9_hasRoom 1 = .ok (.getfield 19, 3) := by decide +kernel
theorem dX9_hasRoom_4 : decode cX9_hasRoom 4 = .ok (.bipush 20, 2) := by decide +kernel
theorem dX9_hasRoom_6 : decode cX9_hasRoom 6 = .ok (.iadd, 1) := by decide +kernel
theorem dX9_hasRoom_7 : decode cX9_hasRoom 7 = .ok (.sipush 400, 3) := by decide +kernel
theorem dX9_hasRoom_10 : decode cX9_hasRoom 10 = .ok (.if_icmp .gt 7, 3) := by decide +kernel
theorem dX9_hasRoom_13 : decode cX9_hasRoom 13 = .ok (.iconst 1, 1) := by decide +kernel
theorem dX9_hasRoom_14 : decode cX9_hasRoom 14 = .ok (.goto 4, 3) := by decide +kernel
theorem dX9_hasRoom_17 : decode cX9_hasRoom 17 = .ok (.iconst 0, 1) := by decide +kernel
theorem dX9_hasRoom_18 : decode cX9_hasRoom 18 = .ok (.ireturn, 1) := by decide +kernel
def fX9_hasRoom (h : mH) : Int32 := if 400 < ((gI h 1 1) + 20) then 0 else 1
theorem mX9_hasRoom {G : GX} {h : mH} {Q : mO → mH → Prop} (hi : Iv h) (k : Q (.inl (some (.int (fX9_hasRoom h)))) h) : WM G jX9_hasRoom [.ref 1] h Q :=
  WM.body (ls := [some (.ref 1)]) rfl (by decide +kernel) rfl (Nat.le_of_ble_eq_true rfl) rfl (((fun (K : (400 < ((gI h 1 1) + 20) → Q (.inl (some (.int 0))) h) ∧ (¬ 400 < ((gI h 1 1) + 20) → Q (.inl (some (.int 1))) h)) => show Vw G jX9_hasRoom 0 [some (.ref 1)] [] h Q from s_aload_n dX9_hasRoom_0 rfl (s_getI dX9_hasRoom_1 flX9_19 (Or.inl rfl) (hi.sh rfl rfl) (s_bipush 20 dX9_hasRoom_4 (by decide) (s_iadd dX9_hasRoom_6 (s_sipush 400 dX9_hasRoom_7 (by decide) (s_icmp_gt 17 dX9_hasRoom_10 rfl (fun q5 => s_iconst 0 dX9_hasRoom_17 (by decide) (s_zreturn dX9_hasRoom_18 rfl (by decide) (K.1 q5))) (fun q5 => s_iconst 1 dX9_hasRoom_13 (by decide) (s_goto 18 dX9_hasRoom_14 rfl (s_zreturn dX9_hasRoom_18 rfl (by decide) (K.2 q5)))))))))) ⟨fun z0 => (it_t (P := fun x => Q (.inl (some (.int x))) h) z0 k), fun z0 => (it_f (P := fun x => Q (.inl (some (.int x))) h) z0 k)⟩))
theorem dX10_isTick_0 : decode cX10_isTick 0 = .ok (.iload_n 0, 1) := by decide +kernel
theorem dX10_isTick_1 : decode cX10_isTick 1 = .ok (.ifCond .lt 14, 3) := by decide +kernel
theorem dX10_isTick_4 : decode cX10_isTick 4 = .ok (.iload_n 0, 1) := by decide +kernel
theorem dX10_isTick_5 : decode cX10_isTick 5 = .ok (.sipush 9999, 3) := by decide +kernel
theorem dX10_isTick_8 : decode cX10_isTick 8 = .ok (.if_icmp .gt 7, 3) := by decide +kernel
theorem dX10_isTick_11 : decode cX10_isTick 11 = .ok (.iconst 1, 1) := by decide +kernel
theorem dX10_isTick_12 : decode cX10_isTick 12 = .ok (.goto 4, 3) := by decide +kernel
theorem dX10_isTick_15 : decode cX10_isTick 15 = .ok (.iconst 0, 1) := by decide +kernel
theorem dX10_isTick_16 : decode cX10_isTick 16 = .ok (.ireturn, 1) := by decide +kernel
def fX10_isTick (v0 : Int32) : Int32 := if v0 < 0 then 0 else if 9999 < v0 then 0 else 1
theorem mX10_isTick {G : GX} {h : mH} {Q : mO → mH → Prop} {v0 : Int32} (k : Q (.inl (some (.int (fX10_isTick v0)))) h) : WM G jX10_isTick [.int v0] h Q :=
  WM.body (ls := [some (.int v0)]) rfl (by decide +kernel) rfl (Nat.le_of_ble_eq_true rfl) rfl (((fun (K : (v0 < 0 → Q (.inl (some (.int 0))) h) ∧ (¬ v0 < 0 → ((9999 < v0 → Q (.inl (some (.int 0))) h) ∧ (¬ 9999 < v0 → Q (.inl (some (.int 1))) h)))) => show Vw G jX10_isTick 0 [some (.int v0)] [] h Q from s_iload_n dX10_isTick_0 rfl (s_if_lt 15 dX10_isTick_1 rfl (fun q1 => s_iconst 0 dX10_isTick_15 (by decide) (s_zreturn dX10_isTick_16 rfl (by decide) (K.1 q1))) (fun q1 => s_iload_n dX10_isTick_4 rfl (s_sipush 9999 dX10_isTick_5 (by decide) (s_icmp_gt 15 dX10_isTick_8 rfl (fun q4 => s_iconst 0 dX10_isTick_15 (by decide) (s_zreturn dX10_isTick_16 rfl (by decide) ((K.2 q1).1 q4))) (fun q4 => s_iconst 1 dX10_isTick_11 (by decide) (s_goto 16 dX10_isTick_12 rfl (s_zreturn dX10_isTick_16 rfl (by decide) ((K.2 q1).2 q4))))))))) ⟨fun z0 => (it_t (P := fun x => Q (.inl (some (.int x))) h) z0 k), fun z0 => ⟨fun z1 => (it_t (P := fun x => Q (.inl (some (.int x))) h) z1 (it_f (P := fun x => Q (.inl (some (.int x))) h) z0 k)), fun z1 => (it_f (P := fun x => Q (.inl (some (.int x))) h) z1 (it_f (P := fun x => Q (.inl (some (.int x))) h) z0 k))⟩⟩))
theorem dX10_isCell_0 : decode cX10_isCell 0 = .ok (.iload_n 0, 1) := by decide +kernel
theorem dX10_isCell_1 : decode cX10_isCell 1 = .ok (.ifCond .lt 14, 3) := by decide +kernel
theorem dX10_isCell_4 : decode cX10_isCell 4 = .ok (.iload_n 0, 1) := by decide +kernel
theorem dX10_isCell_5 : decode cX10_isCell 5 = .ok (.sipush 729, 3) := by decide +kernel
theorem dX10_isCell_8 : decode cX10_isCell 8 = .ok (.if_icmp .ge 7, 3) := by decide +kernel
theorem dX10_isCell_11 : decode cX10_isCell 11 = .ok (.iconst 1, 1) := by decide +kernel
theorem dX10_isCell_12 : decode cX10_isCell 12 = .ok (.goto 4, 3) := by decide +kernel
theorem dX10_isCell_15 : decode cX10_isCell 15 = .ok (.iconst 0, 1) := by decide +kernel
theorem dX10_isCell_16 : decode cX10_isCell 16 = .ok (.ireturn, 1) := by decide +kernel
def fX10_isCell (v0 : Int32) : Int32 := if v0 < 0 then 0 else if 729 ≤ v0 then 0 else 1
theorem mX10_isCell {G : GX} {h : mH} {Q : mO → mH → Prop} {v0 : Int32} (k : Q (.inl (some (.int (fX10_isCell v0)))) h) : WM G jX10_isCell [.int v0] h Q :=
  WM.body (ls := [some (.int v0)]) rfl (by decide +kernel) rfl (Nat.le_of_ble_eq_true rfl) rfl (((fun (K : (v0 < 0 → Q (.inl (some (.int 0))) h) ∧ (¬ v0 < 0 → ((729 ≤ v0 → Q (.inl (some (.int 0))) h) ∧ (¬ 729 ≤ v0 → Q (.inl (some (.int 1))) h)))) => show Vw G jX10_isCell 0 [some (.int v0)] [] h Q from s_iload_n dX10_isCell_0 rfl (s_if_lt 15 dX10_isCell_1 rfl (fun q1 => s_iconst 0 dX10_isCell_15 (by decide) (s_zreturn dX10_isCell_16 rfl (by decide) (K.1 q1))) (fun q1 => s_iload_n dX10_isCell_4 rfl (s_sipush 729 dX10_isCell_5 (by decide) (s_icmp_ge 15 dX10_isCell_8 rfl (fun q4 => s_iconst 0 dX10_isCell_15 (by decide) (s_zreturn dX10_isCell_16 rfl (by decide) ((K.2 q1).1 q4))) (fun q4 => s_iconst 1 dX10_isCell_11 (by decide) (s_goto 16 dX10_isCell_12 rfl (s_zreturn dX10_isCell_16 rfl (by decide) ((K.2 q1).2 q4))))))))) ⟨fun z0 => (it_t (P := fun x => Q (.inl (some (.int x))) h) z0 k), fun z0 => ⟨fun z1 => (it_t (P := fun x => Q (.inl (some (.int x))) h) z1 (it_f (P := fun x => Q (.inl (some (.int x))) h) z0 k)), fun z1 => (it_f (P := fun x => Q (.inl (some (.int x))) h) z1 (it_f (P := fun x => Q (.inl (some (.int x))) h) z0 k))⟩⟩))
theorem dX10_isPlace_0 : decode cX10_isPlace 0 = .ok (.iload_n 0, 1) := by decide +kernel
theorem dX10_isPlace_1 : decode cX10_isPlace 1 = .ok (.sipush (-260), 3) := by decide +kernel
theorem dX10_isPlace_4 : decode cX10_isPlace 4 = .ok (.if_icmp .lt 14, 3) := by decide +kernel
theorem dX10_isPlace_7 : decode cX10_isPlace 7 = .ok (.iload_n 0, 1) := by decide +kernel
theorem dX10_isPlace_8 : decode cX10_isPlace 8 = .ok (.sipush 260, 3) := by decide +kernel
theorem dX10_isPlace_11 : decode cX10_isPlace 11 = .ok (.if_icmp .gt 7, 3) := by decide +kernel
theorem dX10_isPlace_14 : decode cX10_isPlace 14 = .ok (.iconst 1, 1) := by decide +kernel
theorem dX10_isPlace_15 : decode cX10_isPlace 15 = .ok (.goto 4, 3) := by decide +kernel
theorem dX10_isPlace_18 : decode cX10_isPlace 18 = .ok (.iconst 0, 1) := by decide +kernel
theorem dX10_isPlace_19 : decode cX10_isPlace 19 = .ok (.ireturn, 1) := by decide +kernel
def fX10_isPlace (v0 : Int32) : Int32 := if v0 < (-260) then 0 else if 260 < v0 then 0 else 1
theorem mX10_isPlace {G : GX} {h : mH} {Q : mO → mH → Prop} {v0 : Int32} (k : Q (.inl (some (.int (fX10_isPlace v0)))) h) : WM G jX10_isPlace [.int v0] h Q :=
  WM.body (ls := [some (.int v0)]) rfl (by decide +kernel) rfl (Nat.le_of_ble_eq_true rfl) rfl (((fun (K : (v0 < (-260) → Q (.inl (some (.int 0))) h) ∧ (¬ v0 < (-260) → ((260 < v0 → Q (.inl (some (.int 0))) h) ∧ (¬ 260 < v0 → Q (.inl (some (.int 1))) h)))) => show Vw G jX10_isPlace 0 [some (.int v0)] [] h Q from s_iload_n dX10_isPlace_0 rfl (s_sipush (-260) dX10_isPlace_1 (by decide) (s_icmp_lt 18 dX10_isPlace_4 rfl (fun q2 => s_iconst 0 dX10_isPlace_18 (by decide) (s_zreturn dX10_isPlace_19 rfl (by decide) (K.1 q2))) (fun q2 => s_iload_n dX10_isPlace_7 rfl (s_sipush 260 dX10_isPlace_8 (by decide) (s_icmp_gt 18 dX10_isPlace_11 rfl (fun q5 => s_iconst 0 dX10_isPlace_18 (by decide) (s_zreturn dX10_isPlace_19 rfl (by decide) ((K.2 q2).1 q5))) (fun q5 => s_iconst 1 dX10_isPlace_14 (by decide) (s_goto 19 dX10_isPlace_15 rfl (s_zreturn dX10_isPlace_19 rfl (by decide) ((K.2 q2).2 q5)))))))))) ⟨fun z0 => (it_t (P := fun x => Q (.inl (some (.int x))) h) z0 k), fun z0 => ⟨fun z1 => (it_t (P := fun x => Q (.inl (some (.int x))) h) z1 (it_f (P := fun x => Q (.inl (some (.int x))) h) z0 k)), fun z1 => (it_f (P := fun x => Q (.inl (some (.int x))) h) z1 (it_f (P := fun x => Q (.inl (some (.int x))) h) z0 k))⟩⟩))
theorem dX10_mostOfSetting_0 : decode cX10_mostOfSetting 0 = .ok (.iload_n 0, 1) := by decide +kernel
theorem dX10_mostOfSetting_1 : decode cX10_mostOfSetting 1 = .ok (.lookupswitch 33 #[(0, 27), (1, 30)], 27) := by decide +kernel
theorem dX10_mostOfSetting_28 : decode cX10_mostOfSetting 28 = .ok (.bipush 9, 2) := by decide +kernel
theorem dX10_mostOfSetting_30 : decode cX10_mostOfSetting 30 = .ok (.ireturn, 1) := by decide +kernel
theorem dX10_mostOfSetting_31 : decode cX10_mostOfSetting 31 = .ok (.bipush 99, 2) := by decide +kernel
theorem dX10_mostOfSetting_33 : decode cX10_mostOfSetting 33 = .ok (.ireturn, 1) := by decide +kernel
theorem dX10_mostOfSetting_34 : decode cX10_mostOfSetting 34 = .ok (.bipush 90, 2) := by decide +kernel
theorem dX10_mostOfSetting_36 : decode cX10_mostOfSetting 36 = .ok (.ireturn, 1) := by decide +kernel
def fX10_mostOfSetting (v0 : Int32) : Int32 := if v0 = 0 then 9 else (if v0 = 1 then 99 else (90))
theorem mX10_mostOfSetting {G : GX} {h : mH} {Q : mO → mH → Prop} {v0 : Int32} (k : Q (.inl (some (.int (fX10_mostOfSetting v0)))) h) : WM G jX10_mostOfSetting [.int v0] h Q :=
  WM.body (ls := [some (.int v0)]) rfl (by decide +kernel) rfl (Nat.le_of_ble_eq_true rfl) rfl (((fun (K : (v0 = 0 → Q (.inl (some (.int 9))) h) ∧ (v0 = 1 → Q (.inl (some (.int 99))) h) ∧ (¬ v0 = 0 → ¬ v0 = 1 → Q (.inl (some (.int 90))) h)) => show Vw G jX10_mostOfSetting 0 [some (.int v0)] [] h Q from s_iload_n dX10_mostOfSetting_0 rfl (Decidable.byCases (fun e1_0 => s_lookup 28 dX10_mostOfSetting_1 (by decide) (by rw [e1_0] <;> decide) rfl (s_bipush 9 dX10_mostOfSetting_28 (by decide) (s_ireturn dX10_mostOfSetting_30 rfl (K.1 e1_0)))) (fun e1_0 => Decidable.byCases (fun e1_1 => s_lookup 31 dX10_mostOfSetting_1 (by decide) (by rw [e1_1] <;> decide) rfl (s_bipush 99 dX10_mostOfSetting_31 (by decide) (s_ireturn dX10_mostOfSetting_33 rfl (K.2.1 e1_1)))) (fun e1_1 => s_lookup 34 dX10_mostOfSetting_1 (by decide) (lk_out (by simp only [List.forall_mem_cons]; exact ⟨i32_ne e1_0 (by decide), i32_ne e1_1 (by decide), fun _ hh => nomatch hh⟩)) rfl (s_bipush 90 dX10_mostOfSetting_34 (by decide) (s_ireturn dX10_mostOfSetting_36 rfl (K.2.2 e1_0 e1_1))))))) ⟨fun z0 => (sw_at (P := fun x => Q (.inl (some (.int x))) h) (by simp [fX10_mostOfSetting, z0]) k), fun z1 => (sw_at (P := fun x => Q (.inl (some (.int x))) h) (by simp [fX10_mostOfSetting, z1]) k), fun y0_0 y0_1 => (it_f (P := fun x => Q (.inl (some (.int x))) h) y0_1 (it_f (P := fun x => Q (.inl (some (.int x))) h) y0_0 k))⟩))
theorem dX10_cellOf_0 : decode cX10_cellOf 0 = .ok (.bipush 27, 2) := by decide +kernel
theorem dX10_cellOf_2 : decode cX10_cellOf 2 = .ok (.iload_n 1, 1) := by decide +kernel
theorem dX10_cellOf_3 : decode cX10_cellOf 3 = .ok (.sipush 260, 3) := by decide +kernel
theorem dX10_cellOf_6 : decode cX10_cellOf 6 = .ok (.iadd, 1) := by decide +kernel
theorem dX10_cellOf_7 : decode cX10_cellOf 7 = .ok (.bipush 20, 2) := by decide +kernel
theorem dX10_cellOf_9 : decode cX10_cellOf 9 = .ok (.idiv, 1) := by decide +kernel
theorem dX10_cellOf_10 : decode cX10_cellOf 10 = .ok (.imul, 1) := by decide +kernel
theorem dX10_cellOf_11 : decode cX10_cellOf 11 = .ok (.iload_n 0, 1) := by decide +kernel
theorem dX10_cellOf_12 : decode cX10_cellOf 12 = .ok (.sipush 260, 3) := by decide +kernel
theorem dX10_cellOf_15 : decode cX10_cellOf 15 = .ok (.iadd, 1) := by decide +kernel
theorem dX10_cellOf_16 : decode cX10_cellOf 16 = .ok (.bipush 20, 2) := by decide +kernel
theorem dX10_cellOf_18 : decode cX10_cellOf 18 = .ok (.idiv, 1) := by decide +kernel
theorem dX10_cellOf_19 : decode cX10_cellOf 19 = .ok (.iadd, 1) := by decide +kernel
theorem dX10_cellOf_20 : decode cX10_cellOf 20 = .ok (.ireturn, 1) := by decide +kernel
def fX10_cellOf (v0 : Int32) (v1 : Int32) : Int32 := (27 * ((v1 + 260) / (20 : Int32))) + ((v0 + 260) / (20 : Int32))
theorem mX10_cellOf {G : GX} {h : mH} {Q : mO → mH → Prop} {v0 : Int32} {v1 : Int32} (k : Q (.inl (some (.int (fX10_cellOf v0 v1)))) h) : WM G jX10_cellOf [.int v0, .int v1] h Q :=
  WM.body (ls := [some (.int v0), some (.int v1)]) rfl (by decide +kernel) rfl (Nat.le_of_ble_eq_true rfl) rfl (((fun (K : Q (.inl (some (.int ((27 * ((v1 + 260) / (20 : Int32))) + ((v0 + 260) / (20 : Int32)))))) h) => show Vw G jX10_cellOf 0 [some (.int v0), some (.int v1)] [] h Q from s_bipush 27 dX10_cellOf_0 (by decide) (s_iload_n dX10_cellOf_2 rfl (s_sipush 260 dX10_cellOf_3 (by decide) (s_iadd dX10_cellOf_6 (s_bipush 20 dX10_cellOf_7 (by decide) (s_idiv dX10_cellOf_9 (by decide) (s_imul dX10_cellOf_10 (s_iload_n dX10_cellOf_11 rfl (s_sipush 260 dX10_cellOf_12 (by decide) (s_iadd dX10_cellOf_15 (s_bipush 20 dX10_cellOf_16 (by decide) (s_idiv dX10_cellOf_18 (by decide) (s_iadd dX10_cellOf_19 (s_ireturn dX10_cellOf_20 rfl K)))))))))))))) k))
theorem dX0_apartOf_0 : decode cX0_apartOf 0 = .ok (.bipush 8, 2) := by decide +kernel
theorem dX0_apartOf_2 : decode cX0_apartOf 2 = .ok (.iload_n 0, 1) := by decide +kernel
theorem dX0_apartOf_3 : decode cX0_apartOf 3 = .ok (.imul, 1) := by decide +kernel
theorem dX0_apartOf_4 : decode cX0_apartOf 4 = .ok (.iload_n 1, 1) := by decide +kernel
theorem dX0_apartOf_5 : decode cX0_apartOf 5 = .ok (.iadd, 1) := by decide +kernel
theorem dX0_apartOf_6 : decode cX0_apartOf 6 = .ok (.ireturn, 1) := by decide +kernel
def fX0_apartOf (v0 : Int32) (v1 : Int32) : Int32 := (8 * v0) + v1
theorem mX0_apartOf {G : GX} {h : mH} {Q : mO → mH → Prop} {v0 : Int32} {v1 : Int32} (k : Q (.inl (some (.int (fX0_apartOf v0 v1)))) h) : WM G jX0_apartOf [.int v0, .int v1] h Q :=
  WM.body (ls := [some (.int v0), some (.int v1)]) rfl (by decide +kernel) rfl (Nat.le_of_ble_eq_true rfl) rfl (((fun (K : Q (.inl (some (.int ((8 * v0) + v1)))) h) => show Vw G jX0_apartOf 0 [some (.int v0), some (.int v1)] [] h Q from s_bipush 8 dX0_apartOf_0 (by decide) (s_iload_n dX0_apartOf_2 rfl (s_imul dX0_apartOf_3 (s_iload_n dX0_apartOf_4 rfl (s_iadd dX0_apartOf_5 (s_ireturn dX0_apartOf_6 rfl K)))))) k))
theorem dX0_has_0 : decode cX0_has 0 = .ok (.iload_n 0, 1) := by decide +kernel
theorem dX0_has_1 : decode cX0_has 1 = .ok (.iload_n 1, 1) := by decide +kernel
theorem dX0_has_2 : decode cX0_has 2 = .ok (.ishr, 1) := by decide +kernel
theorem dX0_has_3 : decode cX0_has 3 = .ok (.iconst 1, 1) := by decide +kernel
theorem dX0_has_4 : decode cX0_has 4 = .ok (.iand, 1) := by decide +kernel
theorem dX0_has_5 : decode cX0_has 5 = .ok (.iconst 1, 1) := by decide +kernel
theorem dX0_has_6 : decode cX0_has 6 = .ok (.if_icmp .ne 7, 3) := by decide +kernel
theorem dX0_has_9 : decode cX0_has 9 = .ok (.iconst 1, 1) := by decide +kernel
theorem dX0_has_10 : decode cX0_has 10 = .ok (.goto 4, 3) := by decide +kernel
theorem dX0_has_13 : decode cX0_has 13 = .ok (.iconst 0, 1) := by decide +kernel
theorem dX0_has_14 : decode cX0_has 14 = .ok (.ireturn, 1) := by decide +kernel
def fX0_has (v0 : Int32) (v1 : Int32) : Int32 := if ((v0 >>> (v1 &&& 31)) &&& (1 : Int32)) = 1 then 1 else 0
theorem mX0_has {G : GX} {h : mH} {Q : mO → mH → Prop} {v0 : Int32} {v1 : Int32} (k : Q (.inl (some (.int (fX0_has v0 v1)))) h) : WM G jX0_has [.int v0, .int v1] h Q :=
  WM.body (ls := [some (.int v0), some (.int v1)]) rfl (by decide +kernel) rfl (Nat.le_of_ble_eq_true rfl) rfl (((fun (K : (¬ ((v0 >>> (v1 &&& 31)) &&& (1 : Int32)) = 1 → Q (.inl (some (.int 0))) h) ∧ (((v0 >>> (v1 &&& 31)) &&& (1 : Int32)) = 1 → Q (.inl (some (.int 1))) h)) => show Vw G jX0_has 0 [some (.int v0), some (.int v1)] [] h Q from s_iload_n dX0_has_0 rfl (s_iload_n dX0_has_1 rfl (s_ishr dX0_has_2 (s_iconst 1 dX0_has_3 (by decide) (s_iand dX0_has_4 (s_iconst 1 dX0_has_5 (by decide) (s_icmp_ne 13 dX0_has_6 rfl (fun q6 => s_iconst 0 dX0_has_13 (by decide) (s_zreturn dX0_has_14 rfl (by decide) (K.1 q6))) (fun q6 => s_iconst 1 dX0_has_9 (by decide) (s_goto 14 dX0_has_10 rfl (s_zreturn dX0_has_14 rfl (by decide) (K.2 q6))))))))))) ⟨fun z0 => (it_f (P := fun x => Q (.inl (some (.int x))) h) z0 k), fun z0 => (it_t (P := fun x => Q (.inl (some (.int x))) h) z0 k)⟩))
theorem dX0_stateOf_0 : decode cX0_stateOf 0 = .ok (.bipush 8, 2) := by decide +kernel
theorem dX0_stateOf_2 : decode cX0_stateOf 2 = .ok (.iload_n 0, 1) := by decide +kernel
theorem dX0_stateOf_3 : decode cX0_stateOf 3 = .ok (.imul, 1) := by decide +kernel
theorem dX0_stateOf_4 : decode cX0_stateOf 4 = .ok (.iload_n 1, 1) := by decide +kernel
theorem dX0_stateOf_5 : decode cX0_stateOf 5 = .ok (.iadd, 1) := by decide +kernel
theorem dX0_stateOf_6 : decode cX0_stateOf 6 = .ok (.ireturn, 1) := by decide +kernel
def fX0_stateOf (v0 : Int32) (v1 : Int32) : Int32 := (8 * v0) + v1
theorem mX0_stateOf {G : GX} {h : mH} {Q : mO → mH → Prop} {v0 : Int32} {v1 : Int32} (k : Q (.inl (some (.int (fX0_stateOf v0 v1)))) h) : WM G jX0_stateOf [.int v0, .int v1] h Q :=
  WM.body (ls := [some (.int v0), some (.int v1)]) rfl (by decide +kernel) rfl (Nat.le_of_ble_eq_true rfl) rfl (((fun (K : Q (.inl (some (.int ((8 * v0) + v1)))) h) => show Vw G jX0_stateOf 0 [some (.int v0), some (.int v1)] [] h Q from s_bipush 8 dX0_stateOf_0 (by decide) (s_iload_n dX0_stateOf_2 rfl (s_imul dX0_stateOf_3 (s_iload_n dX0_stateOf_4 rfl (s_iadd dX0_stateOf_5 (s_ireturn dX0_stateOf_6 rfl K)))))) k))
theorem dX1_placeOf_0 : decode cX1_placeOf 0 = .ok (.bipush 6, 2) := by decide +kernel
theorem dX1_placeOf_2 : decode cX1_placeOf 2 = .ok (.bipush 6, 2) := by decide +kernel
theorem dX1_placeOf_4 : decode cX1_placeOf 4 = .ok (.iload_n 0, 1) := by decide +kernel
theorem dX1_placeOf_5 : decode cX1_placeOf 5 = .ok (.imul, 1) := by decide +kernel
theorem dX1_placeOf_6 : decode cX1_placeOf 6 = .ok (.iload_n 1, 1) := by decide +kernel
theorem dX1_placeOf_7 : decode cX1_placeOf 7 = .ok (.iadd, 1) := by decide +kernel
theorem dX1_placeOf_8 : decode cX1_placeOf 8 = .ok (.imul, 1) := by decide +kernel
theorem dX1_placeOf_9 : decode cX1_placeOf 9 = .ok (.ireturn, 1) := by decide +kernel
def fX1_placeOf (v0 : Int32) (v1 : Int32) : Int32 := 6 * ((6 * v0) + v1)
theorem mX1_placeOf {G : GX} {h : mH} {Q : mO → mH → Prop} {v0 : Int32} {v1 : Int32} (k : Q (.inl (some (.int (fX1_placeOf v0 v1)))) h) : WM G jX1_placeOf [.int v0, .int v1] h Q :=
  WM.body (ls := [some (.int v0), some (.int v1)]) rfl (by decide +kernel) rfl (Nat.le_of_ble_eq_true rfl) rfl (((fun (K : Q (.inl (some (.int (6 * ((6 * v0) + v1))))) h) => show Vw G jX1_placeOf 0 [some (.int v0), some (.int v1)] [] h Q from s_bipush 6 dX1_placeOf_0 (by decide) (s_bipush 6 dX1_placeOf_2 (by decide) (s_iload_n dX1_placeOf_4 rfl (s_imul dX1_placeOf_5 (s_iload_n dX1_placeOf_6 rfl (s_iadd dX1_placeOf_7 (s_imul dX1_placeOf_8 (s_ireturn dX1_placeOf_9 rfl K)))))))) k))
theorem dX1_offOf_0 : decode cX1_offOf 0 = .ok (.bipush 6, 2) := by decide +kernel
theorem dX1_offOf_2 : decode cX1_offOf 2 = .ok (.bipush 36, 2) := by decide +kernel
theorem dX1_offOf_4 : decode cX1_offOf 4 = .ok (.iload_n 0, 1) := by decide +kernel
theorem dX1_offOf_5 : decode cX1_offOf 5 = .ok (.imul, 1) := by decide +kernel
theorem dX1_offOf_6 : decode cX1_offOf 6 = .ok (.iload_n 1, 1) := by decide +kernel
theorem dX1_offOf_7 : decode cX1_offOf 7 = .ok (.iadd, 1) := by decide +kernel
theorem dX1_offOf_8 : decode cX1_offOf 8 = .ok (.imul, 1) := by decide +kernel
theorem dX1_offOf_9 : decode cX1_offOf 9 = .ok (.ireturn, 1) := by decide +kernel
def fX1_offOf (v0 : Int32) (v1 : Int32) : Int32 := 6 * ((36 * v0) + v1)
theorem mX1_offOf {G : GX} {h : mH} {Q : mO → mH → Prop} {v0 : Int32} {v1 : Int32} (k : Q (.inl (some (.int (fX1_offOf v0 v1)))) h) : WM G jX1_offOf [.int v0, .int v1] h Q :=
  WM.body (ls := [some (.int v0), some (.int v1)]) rfl (by decide +kernel) rfl (Nat.le_of_ble_eq_true rfl) rfl (((fun (K : Q (.inl (some (.int (6 * ((36 * v0) + v1))))) h) => show Vw G jX1_offOf 0 [some (.int v0), some (.int v1)] [] h Q from s_bipush 6 dX1_offOf_0 (by decide) (s_bipush 36 dX1_offOf_2 (by decide) (s_iload_n dX1_offOf_4 rfl (s_imul dX1_offOf_5 (s_iload_n dX1_offOf_6 rfl (s_iadd dX1_offOf_7 (s_imul dX1_offOf_8 (s_ireturn dX1_offOf_9 rfl K)))))))) k))
theorem dX1_figures_0 : decode cX1_figures 0 = .ok (.bipush 10, 2) := by decide +kernel
theorem dX1_figures_2 : decode cX1_figures 2 = .ok (.iload_n 0, 1) := by decide +kernel
theorem dX1_figures_3 : decode cX1_figures 3 = .ok (.bipush 6, 2) := by decide +kernel
theorem dX1_figures_5 : decode cX1_figures 5 = .ok (.idiv, 1) := by decide +kernel
theorem dX1_figures_6 : decode cX1_figures 6 = .ok (.imul, 1) := by decide +kernel
theorem dX1_figures_7 : decode cX1_figures 7 = .ok (.iload_n 0, 1) := by decide +kernel
theorem dX1_figures_8 : decode cX1_figures 8 = .ok (.bipush 6, 2) := by decide +kernel
theorem dX1_figures_10 : decode cX1_figures 10 = .ok (.irem, 1) := by decide +kernel
theorem dX1_figures_11 : decode cX1_figures 11 = .ok (.iadd, 1) := by decide +kernel
theorem dX1_figures_12 : decode cX1_figures 12 = .ok (.ireturn, 1) := by decide +kernel
def fX1_figures (v0 : Int32) : Int32 := (10 * (v0 / (6 : Int32))) + (v0 - v0 / (6 : Int32) * (6 : Int32))
theorem mX1_figures {G : GX} {h : mH} {Q : mO → mH → Prop} {v0 : Int32} (k : Q (.inl (some (.int (fX1_figures v0)))) h) : WM G jX1_figures [.int v0] h Q :=
  WM.body (ls := [some (.int v0)]) rfl (by decide +kernel) rfl (Nat.le_of_ble_eq_true rfl) rfl (((fun (K : Q (.inl (some (.int ((10 * (v0 / (6 : Int32))) + (v0 - v0 / (6 : Int32) * (6 : Int32)))))) h) => show Vw G jX1_figures 0 [some (.int v0)] [] h Q from s_bipush 10 dX1_figures_0 (by decide) (s_iload_n dX1_figures_2 rfl (s_bipush 6 dX1_figures_3 (by decide) (s_idiv dX1_figures_5 (by decide) (s_imul dX1_figures_6 (s_iload_n dX1_figures_7 rfl (s_bipush 6 dX1_figures_8 (by decide) (s_irem dX1_figures_10 (by decide) (s_iadd dX1_figures_11 (s_ireturn dX1_figures_12 rfl K)))))))))) k))
theorem dX2_slope_0 : decode cX2_slope 0 = .ok (.iload_n 0, 1) := by decide +kernel
theorem dX2_slope_1 : decode cX2_slope 1 = .ok (.iload_n 1, 1) := by decide +kernel
theorem dX2_slope_2 : decode cX2_slope 2 = .ok (.if_icmp .gt 5, 3) := by decide +kernel
theorem dX2_slope_5 : decode cX2_slope 5 = .ok (.iload_n 0, 1) := by decide +kernel
theorem dX2_slope_6 : decode cX2_slope 6 = .ok (.ireturn, 1) := by decide +kernel
theorem dX2_slope_7 : decode cX2_slope 7 = .ok (.iload_n 0, 1) := by decide +kernel
theorem dX2_slope_8 : decode cX2_slope 8 = .ok (.iconst 3, 1) := by decide +kernel
theorem dX2_slope_9 : decode cX2_slope 9 = .ok (.iload_n 1, 1) := by decide +kernel
theorem dX2_slope_10 : decode cX2_slope 10 = .ok (.imul, 1) := by decide +kernel
theorem dX2_slope_11 : decode cX2_slope 11 = .ok (.if_icmp .gt 11, 3) := by decide +kernel
theorem dX2_slope_14 : decode cX2_slope 14 = .ok (.iconst 2, 1) := by decide +kernel
theorem dX2_slope_15 : decode cX2_slope 15 = .ok (.iload_n 1, 1) := by decide +kernel
theorem dX2_slope_16 : decode cX2_slope 16 = .ok (.imul, 1) := by decide +kernel
theorem dX2_slope_17 : decode cX2_slope 17 = .ok (.iload_n 0, 1) := by decide +kernel
theorem dX2_slope_18 : decode cX2_slope 18 = .ok (.isub, 1) := by decide +kernel
theorem dX2_slope_19 : decode cX2_slope 19 = .ok (.goto 8, 3) := by decide +kernel
theorem dX2_slope_22 : decode cX2_slope 22 = .ok (.iload_n 0, 1) := by decide +kernel
theorem dX2_slope_23 : decode cX2_slope 23 = .ok (.iconst 4, 1) := by decide +kernel
theorem dX2_slope_24 : decode cX2_slope 24 = .ok (.iload_n 1, 1) := by decide +kernel
theorem dX2_slope_25 : decode cX2_slope 25 = .ok (.imul, 1) := by decide +kernel
theorem dX2_slope_26 : decode cX2_slope 26 = .ok (.isub, 1) := by decide +kernel
theorem dX2_slope_27 : decode cX2_slope 27 = .ok (.ireturn, 1) := by decide +kernel
def fX2_slope (v0 : Int32) (v1 : Int32) : Int32 := if v1 < v0 then if (3 * v1) < v0 then v0 - (4 * v1) else (2 * v1) - v0 else v0
theorem mX2_slope {G : GX} {h : mH} {Q : mO → mH → Prop} {v0 : Int32} {v1 : Int32} (k : Q (.inl (some (.int (fX2_slope v0 v1)))) h) : WM G jX2_slope [.int v0, .int v1] h Q :=
  WM.body (ls := [some (.int v0), some (.int v1)]) rfl (by decide +kernel) rfl (Nat.le_of_ble_eq_true rfl) rfl (((fun (K : (v1 < v0 → (((3 * v1) < v0 → Q (.inl (some (.int (v0 - (4 * v1))))) h) ∧ (¬ (3 * v1) < v0 → Q (.inl (some (.int ((2 * v1) - v0)))) h))) ∧ (¬ v1 < v0 → Q (.inl (some (.int v0))) h)) => show Vw G jX2_slope 0 [some (.int v0), some (.int v1)] [] h Q from s_iload_n dX2_slope_0 rfl (s_iload_n dX2_slope_1 rfl (s_icmp_gt 7 dX2_slope_2 rfl (fun q2 => s_iload_n dX2_slope_7 rfl (s_iconst 3 dX2_slope_8 (by decide) (s_iload_n dX2_slope_9 rfl (s_imul dX2_slope_10 (s_icmp_gt 22 dX2_slope_11 rfl (fun q7 => s_iload_n dX2_slope_22 rfl (s_iconst 4 dX2_slope_23 (by decide) (s_iload_n dX2_slope_24 rfl (s_imul dX2_slope_25 (s_isub dX2_slope_26 (s_ireturn dX2_slope_27 rfl ((K.1 q2).1 q7))))))) (fun q7 => s_iconst 2 dX2_slope_14 (by decide) (s_iload_n dX2_slope_15 rfl (s_imul dX2_slope_16 (s_iload_n dX2_slope_17 rfl (s_isub dX2_slope_18 (s_goto 27 dX2_slope_19 rfl (s_ireturn dX2_slope_27 rfl ((K.1 q2).2 q7))))))))))))) (fun q2 => s_iload_n dX2_slope_5 rfl (s_ireturn dX2_slope_6 rfl (K.2 q2)))))) ⟨fun z0 => ⟨fun z1 => (it_t (P := fun x => Q (.inl (some (.int x))) h) z1 (it_t (P := fun x => Q (.inl (some (.int x))) h) z0 k)), fun z1 => (it_f (P := fun x => Q (.inl (some (.int x))) h) z1 (it_t (P := fun x => Q (.inl (some (.int x))) h) z0 k))⟩, fun z0 => (it_f (P := fun x => Q (.inl (some (.int x))) h) z0 k)⟩))
theorem dX2_arch_0 : decode cX2_arch 0 = .ok (.iload_n 0, 1) := by decide +kernel
theorem dX2_arch_1 : decode cX2_arch 1 = .ok (.iload_n 1, 1) := by decide +kernel
theorem dX2_arch_2 : decode cX2_arch 2 = .ok (.if_icmp .gt 11, 3) := by decide +kernel
theorem dX2_arch_5 : decode cX2_arch 5 = .ok (.iconst 4, 1) := by decide +kernel
theorem dX2_arch_6 : decode cX2_arch 6 = .ok (.iload_n 0, 1) := by decide +kernel
theorem dX2_arch_7 : decode cX2_arch 7 = .ok (.imul, 1) := by decide +kernel
theorem dX2_arch_8 : decode cX2_arch 8 = .ok (.iload_n 1, 1) := by decide +kernel
theorem dX2_arch_9 : decode cX2_arch 9 = .ok (.iload_n 0, 1) := by decide +kernel
theorem dX2_arch_10 : decode cX2_arch 10 = .ok (.isub, 1) := by decide +kernel
theorem dX2_arch_11 : decode cX2_arch 11 = .ok (.imul, 1) := by decide +kernel
theorem dX2_arch_12 : decode cX2_arch 12 = .ok (.ireturn, 1) := by decide +kernel
theorem dX2_arch_13 : decode cX2_arch 13 = .ok (.iload_n 0, 1) := by decide +kernel
theorem dX2_arch_14 : decode cX2_arch 14 = .ok (.iload_n 1, 1) := by decide +kernel
theorem dX2_arch_15 : decode cX2_arch 15 = .ok (.isub, 1) := by decide +kernel
theorem dX2_arch_16 : decode cX2_arch 16 = .ok (.istore_n 2, 1) := by decide +kernel
theorem dX2_arch_17 : decode cX2_arch 17 = .ok (.bipush (-4), 2) := by decide +kernel
theorem dX2_arch_19 : decode cX2_arch 19 = .ok (.iload_n 2, 1) := by decide +kernel
theorem dX2_arch_20 : decode cX2_arch 20 = .ok (.imul, 1) := by decide +kernel
theorem dX2_arch_21 : decode cX2_arch 21 = .ok (.iload_n 1, 1) := by decide +kernel
theorem dX2_arch_22 : decode cX2_arch 22 = .ok (.iload_n 2, 1) := by decide +kernel
theorem dX2_arch_23 : decode cX2_arch 23 = .ok (.isub, 1) := by decide +kernel
theorem dX2_arch_24 : decode cX2_arch 24 = .ok (.imul, 1) := by decide +kernel
theorem dX2_arch_25 : decode cX2_arch 25 = .ok (.ireturn, 1) := by decide +kernel
def fX2_arch (v0 : Int32) (v1 : Int32) : Int32 := if v1 < v0 then ((-4) * (v0 - v1)) * (v1 - (v0 - v1)) else (4 * v0) * (v1 - v0)
theorem mX2_arch {G : GX} {h : mH} {Q : mO → mH → Prop} {v0 : Int32} {v1 : Int32} (k : Q (.inl (some (.int (fX2_arch v0 v1)))) h) : WM G jX2_arch [.int v0, .int v1] h Q :=
  WM.body (ls := [some (.int v0), some (.int v1), none]) rfl (by decide +kernel) rfl (Nat.le_of_ble_eq_true rfl) rfl (((fun (K : (v1 < v0 → Q (.inl (some (.int (((-4) * (v0 - v1)) * (v1 - (v0 - v1)))))) h) ∧ (¬ v1 < v0 → Q (.inl (some (.int ((4 * v0) * (v1 - v0))))) h)) => show Vw G jX2_arch 0 [some (.int v0), some (.int v1), none] [] h Q from s_iload_n dX2_arch_0 rfl (s_iload_n dX2_arch_1 rfl (s_icmp_gt 13 dX2_arch_2 rfl (fun q2 => s_iload_n dX2_arch_13 rfl (s_iload_n dX2_arch_14 rfl (s_isub dX2_arch_15 (s_istore_n dX2_arch_16 (Nat.le_of_ble_eq_true rfl) rfl (s_bipush (-4) dX2_arch_17 (by decide) (s_iload_n dX2_arch_19 rfl (s_imul dX2_arch_20 (s_iload_n dX2_arch_21 rfl (s_iload_n dX2_arch_22 rfl (s_isub dX2_arch_23 (s_imul dX2_arch_24 (s_ireturn dX2_arch_25 rfl (K.1 q2))))))))))))) (fun q2 => s_iconst 4 dX2_arch_5 (by decide) (s_iload_n dX2_arch_6 rfl (s_imul dX2_arch_7 (s_iload_n dX2_arch_8 rfl (s_iload_n dX2_arch_9 rfl (s_isub dX2_arch_10 (s_imul dX2_arch_11 (s_ireturn dX2_arch_12 rfl (K.2 q2)))))))))))) ⟨fun z0 => (it_t (P := fun x => Q (.inl (some (.int x))) h) z0 k), fun z0 => (it_f (P := fun x => Q (.inl (some (.int x))) h) z0 k)⟩))
theorem dX11_thrown_0 : decode cX11_thrown 0 = .ok (.aload_n 0, 1) := by decide +kernel
theorem dX11_thrown_1 : decode cX11_thrown 1 = .ok (.getfield 113, 3) := by decide +kernel
theorem dX11_thrown_4 : decode cX11_thrown 4 = .ok (.ireturn, 1) := by decide +kernel
def fX11_thrown (h : mH) : Int32 := gI h 83 0
theorem mX11_thrown {G : GX} {h : mH} {Q : mO → mH → Prop} (hi : Iv h) (k : Q (.inl (some (.int (fX11_thrown h)))) h) : WM G jX11_thrown [.ref 83] h Q :=
  WM.body (ls := [some (.ref 83)]) rfl (by decide +kernel) rfl (Nat.le_of_ble_eq_true rfl) rfl (((fun (K : Q (.inl (some (.int (gI h 83 0)))) h) => show Vw G jX11_thrown 0 [some (.ref 83)] [] h Q from s_aload_n dX11_thrown_0 rfl (s_getI dX11_thrown_1 flX11_113 (Or.inl rfl) (hi.sh rfl rfl) (s_ireturn dX11_thrown_4 rfl K))) k))
theorem dX10_fault_0 : decode cX10_fault 0 = .ok (.aload_n 0, 1) := by decide +kernel
theorem dX10_fault_1 : decode cX10_fault 1 = .ok (.getfield 12, 3) := by decide +kernel
theorem dX10_fault_4 : decode cX10_fault 4 = .ok (.getfield 169, 3) := by decide +kernel
theorem dX10_fault_7 : decode cX10_fault 7 = .ok (.ireturn, 1) := by decide +kernel
def fX10_fault (h : mH) : Int32 := gI h 1 3
theorem mX10_fault {G : GX} {h : mH} {Q : mO → mH → Prop} (hi : Iv h) (k : Q (.inl (some (.int (fX10_fault h)))) h) : WM G jX10_fault [.ref 0] h Q :=
  WM.body (ls := [some (.ref 0)]) rfl (by decide +kernel) rfl (Nat.le_of_ble_eq_true rfl) rfl (((fun (K : Q (.inl (some (.int (gI h 1 3)))) h) => show Vw G jX10_fault 0 [some (.ref 0)] [] h Q from s_aload_n dX10_fault_0 rfl (s_getR (v := .ref 1) dX10_fault_1 flX10_12 rfl (hi.sh rfl rfl) (hi.rf (o := 0) (k := 0) (d := 1) rfl rfl) (s_getI dX10_fault_4 flX10_169 (Or.inl rfl) (hi.sh rfl rfl) (s_ireturn dX10_fault_7 rfl K)))) k))
