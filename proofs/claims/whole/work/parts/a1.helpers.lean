section HELPERS
variable {G : GX} {h : mH} {Q : mO → mH → Prop}
/-- behind the class's method in a helper of the law: the answer is laid down, or the exception is told -/
def HpQ (cN cI : Option Int32) (Q : mO → mH → Prop) : mO → mH → Prop := fun o h => match o with
  | .inl (some (.int r)) => Iv h ∧ Q (.inl (some (.int 0))) (pJ h 116 0 r.toInt64)
  | .inl _ => False
  | .inr E => ∃ K, ((E = eN ∧ cN = some K) ∨ (E = eI ∧ cI = some K)) ∧ Q (.inl (some (.int K))) h
def HpV (cN : Option Int32) (Q : mO → mH → Prop) : mO → mH → Prop := fun o h => match o with
  | .inl none => Iv h ∧ Q (.inl (some (.int 0))) h
  | .inl _ => False
  | .inr E => ∃ K, (E = eN ∧ cN = some K) ∧ Q (.inl (some (.int K))) h
theorem dL_swings_0 : decode cL_swings 0 = .ok (.aload_n 2, 1) := by decide +kernel
theorem dL_swings_1 : decode cL_swings 1 = .ok (.iconst 0, 1) := by decide +kernel
theorem dL_swings_2 : decode cL_swings 2 = .ok (.aload_n 0, 1) := by decide +kernel
theorem dL_swings_3 : decode cL_swings 3 = .ok (.iload_n 1, 1) := by decide +kernel
theorem dL_swings_4 : decode cL_swings 4 = .ok (.invokevirtual 7, 3) := by decide +kernel
theorem dL_swings_7 : decode cL_swings 7 = .ok (.i2l, 1) := by decide +kernel
theorem dL_swings_8 : decode cL_swings 8 = .ok (.lastore, 1) := by decide +kernel
theorem dL_swings_9 : decode cL_swings 9 = .ok (.goto 6, 3) := by decide +kernel
theorem dL_swings_12 : decode cL_swings 12 = .ok (.astore_n 3, 1) := by decide +kernel
theorem dL_swings_13 : decode cL_swings 13 = .ok (.iconst 1, 1) := by decide +kernel
theorem dL_swings_14 : decode cL_swings 14 = .ok (.ireturn, 1) := by decide +kernel
theorem dL_swings_15 : decode cL_swings 15 = .ok (.iconst 0, 1) := by decide +kernel
theorem dL_swings_16 : decode cL_swings 16 = .ok (.ireturn, 1) := by decide +kernel
theorem hdL_swings_0 : Hd jL_swings 4 eI 1 := ⟨[], ⟨0, 9, 12, 13⟩, [], 3, 1, rfl, by decide, by decide, w_611, .inl rfl, .inr ⟨3, rfl, dL_swings_12, rfl⟩, by decide, fun G h Q q => s_iconst 1 dL_swings_13 (by decide) (s_ireturn dL_swings_14 rfl q)⟩
theorem mL_swings {v1 : Int32} (hi : Iv h) (k : WM G jX10_swings [.ref 0, .int v1] h (HpQ none (some 1) Q)) : WM G jL_swings [.ref 0, .int v1, .ref 116] h Q := by
  refine WM.bodyH (ls := [some (.ref 0), some (.int v1), some (.ref 116), none]) rfl (by decide +kernel) rfl (Nat.le_of_ble_eq_true rfl) rfl ?_
  refine s_aload_n dL_swings_0 rfl (s_iconst 0 dL_swings_1 (by decide) (s_aload_n dL_swings_2 rfl (s_iload_n dL_swings_3 rfl (s_callVH (As := [.int v1]) (Nat.le_of_ble_eq_true rfl) dL_swings_4 lvL_7 ⟨Nat.le_of_ble_eq_true rfl, Nat.le_of_ble_eq_true rfl⟩ (hi.sh rfl rfl) ⟨_, _, by decide, rfl⟩ rfl (Nat.le_of_ble_eq_true rfl) (k.mono ?_)))))
  intro o g q
  match o, q with
  | .inl (some (.int r)), q => exact s_i2l dL_swings_7 (s_lastore dL_swings_8 (q.1.sh rfl rfl) (by unfold vp_in; decide) (s_goto 15 dL_swings_9 rfl (s_iconst 0 dL_swings_15 (by decide) (s_ireturn dL_swings_16 rfl q.2))))
  | .inr E, ⟨K, e, q⟩ =>
    rcases e with ⟨e1, e2⟩ | ⟨e1, e2⟩
    · cases e2
    · cases e2; exact ⟨_, by rw [e1]; exact hdL_swings_0, q⟩
theorem lhL_89 : kLH RL 89 jL_swings 3 := ⟨rfl, gT_in (List.mem_of_getElem? (i := 610) (by decide +kernel)) rfl, w_93, ⟨by decide +kernel, by decide +kernel⟩, by decide +kernel, w_608, w_609⟩
theorem dL_score_0 : decode cL_score 0 = .ok (.aload_n 2, 1) := by decide +kernel
theorem dL_score_1 : decode cL_score 1 = .ok (.iconst 0, 1) := by decide +kernel
theorem dL_score_2 : decode cL_score 2 = .ok (.aload_n 0, 1) := by decide +kernel
theorem dL_score_3 : decode cL_score 3 = .ok (.iload_n 1, 1) := by decide +kernel
theorem dL_score_4 : decode cL_score 4 = .ok (.invokevirtual 15, 3) := by decide +kernel
theorem dL_score_7 : decode cL_score 7 = .ok (.i2l, 1) := by decide +kernel
theorem dL_score_8 : decode cL_score 8 = .ok (.lastore, 1) := by decide +kernel
theorem dL_score_9 : decode cL_score 9 = .ok (.goto 6, 3) := by decide +kernel
theorem dL_score_12 : decode cL_score 12 = .ok (.astore_n 3, 1) := by decide +kernel
theorem dL_score_13 : decode cL_score 13 = .ok (.iconst 1, 1) := by decide +kernel
theorem dL_score_14 : decode cL_score 14 = .ok (.ireturn, 1) := by decide +kernel
theorem dL_score_15 : decode cL_score 15 = .ok (.iconst 0, 1) := by decide +kernel
theorem dL_score_16 : decode cL_score 16 = .ok (.ireturn, 1) := by decide +kernel
theorem hdL_score_0 : Hd jL_score 4 eI 1 := ⟨[], ⟨0, 9, 12, 13⟩, [], 3, 1, rfl, by decide, by decide, w_611, .inl rfl, .inr ⟨3, rfl, dL_score_12, rfl⟩, by decide, fun G h Q q => s_iconst 1 dL_score_13 (by decide) (s_ireturn dL_score_14 rfl q)⟩
theorem mL_score {v1 : Int32} (hi : Iv h) (k : WM G jX10_score [.ref 0, .int v1] h (HpQ none (some 1) Q)) : WM G jL_score [.ref 0, .int v1, .ref 116] h Q := by
  refine WM.bodyH (ls := [some (.ref 0), some (.int v1), some (.ref 116), none]) rfl (by decide +kernel) rfl (Nat.le_of_ble_eq_true rfl) rfl ?_
  refine s_aload_n dL_score_0 rfl (s_iconst 0 dL_score_1 (by decide) (s_aload_n dL_score_2 rfl (s_iload_n dL_score_3 rfl (s_callVH (As := [.int v1]) (Nat.le_of_ble_eq_true rfl) dL_score_4 lvL_15 ⟨Nat.le_of_ble_eq_true rfl, Nat.le_of_ble_eq_true rfl⟩ (hi.sh rfl rfl) ⟨_, _, by decide, rfl⟩ rfl (Nat.le_of_ble_eq_true rfl) (k.mono ?_)))))
  intro o g q
  match o, q with
  | .inl (some (.int r)), q => exact s_i2l dL_score_7 (s_lastore dL_score_8 (q.1.sh rfl rfl) (by unfold vp_in; decide) (s_goto 15 dL_score_9 rfl (s_iconst 0 dL_score_15 (by decide) (s_ireturn dL_score_16 rfl q.2))))
  | .inr E, ⟨K, e, q⟩ =>
    rcases e with ⟨e1, e2⟩ | ⟨e1, e2⟩
    · cases e2
    · cases e2; exact ⟨_, by rw [e1]; exact hdL_score_0, q⟩
theorem lhL_99 : kLH RL 99 jL_score 3 := ⟨rfl, gT_in (List.mem_of_getElem? (i := 841) (by decide +kernel)) rfl, w_93, ⟨by decide +kernel, by decide +kernel⟩, by decide +kernel, w_839, w_840⟩
theorem dL_performed_0 : decode cL_performed 0 = .ok (.aload_n 2, 1) := by decide +kernel
theorem dL_performed_1 : decode cL_performed 1 = .ok (.iconst 0, 1) := by decide +kernel
theorem dL_performed_2 : decode cL_performed 2 = .ok (.aload_n 0, 1) := by decide +kernel
theorem dL_performed_3 : decode cL_performed 3 = .ok (.iload_n 1, 1) := by decide +kernel
theorem dL_performed_4 : decode cL_performed 4 = .ok (.invokevirtual 18, 3) := by decide +kernel
theorem dL_performed_7 : decode cL_performed 7 = .ok (.i2l, 1) := by decide +kernel
theorem dL_performed_8 : decode cL_performed 8 = .ok (.lastore, 1) := by decide +kernel
theorem dL_performed_9 : decode cL_performed 9 = .ok (.goto 6, 3) := by decide +kernel
theorem dL_performed_12 : decode cL_performed 12 = .ok (.astore_n 3, 1) := by decide +kernel
theorem dL_performed_13 : decode cL_performed 13 = .ok (.iconst 1, 1) := by decide +kernel
theorem dL_performed_14 : decode cL_performed 14 = .ok (.ireturn, 1) := by decide +kernel
theorem dL_performed_15 : decode cL_performed 15 = .ok (.iconst 0, 1) := by decide +kernel
theorem dL_performed_16 : decode cL_performed 16 = .ok (.ireturn, 1) := by decide +kernel
theorem hdL_performed_0 : Hd jL_performed 4 eN 1 := ⟨[], ⟨0, 9, 12, 21⟩, [], 3, 1, rfl, by decide, by decide, w_908, .inl rfl, .inr ⟨3, rfl, dL_performed_12, rfl⟩, by decide, fun G h Q q => s_iconst 1 dL_performed_13 (by decide) (s_ireturn dL_performed_14 rfl q)⟩
theorem mL_performed {v1 : Int32} (hi : Iv h) (k : WM G jX10_performed [.ref 0, .int v1] h (HpQ (some 1) none Q)) : WM G jL_performed [.ref 0, .int v1, .ref 116] h Q := by
  refine WM.bodyH (ls := [some (.ref 0), some (.int v1), some (.ref 116), none]) rfl (by decide +kernel) rfl (Nat.le_of_ble_eq_true rfl) rfl ?_
  refine s_aload_n dL_performed_0 rfl (s_iconst 0 dL_performed_1 (by decide) (s_aload_n dL_performed_2 rfl (s_iload_n dL_performed_3 rfl (s_callVH (As := [.int v1]) (Nat.le_of_ble_eq_true rfl) dL_performed_4 lvL_18 ⟨Nat.le_of_ble_eq_true rfl, Nat.le_of_ble_eq_true rfl⟩ (hi.sh rfl rfl) ⟨_, _, by decide, rfl⟩ rfl (Nat.le_of_ble_eq_true rfl) (k.mono ?_)))))
  intro o g q
  match o, q with
  | .inl (some (.int r)), q => exact s_i2l dL_performed_7 (s_lastore dL_performed_8 (q.1.sh rfl rfl) (by unfold vp_in; decide) (s_goto 15 dL_performed_9 rfl (s_iconst 0 dL_performed_15 (by decide) (s_ireturn dL_performed_16 rfl q.2))))
  | .inr E, ⟨K, e, q⟩ =>
    rcases e with ⟨e1, e2⟩ | ⟨e1, e2⟩
    · cases e2; exact ⟨_, by rw [e1]; exact hdL_performed_0, q⟩
    · cases e2
theorem lhL_102 : kLH RL 102 jL_performed 3 := ⟨rfl, gT_in (List.mem_of_getElem? (i := 907) (by decide +kernel)) rfl, w_93, ⟨by decide +kernel, by decide +kernel⟩, by decide +kernel, w_905, w_906⟩
theorem dL_marks_0 : decode cL_marks 0 = .ok (.aload_n 2, 1) := by decide +kernel
theorem dL_marks_1 : decode cL_marks 1 = .ok (.iconst 0, 1) := by decide +kernel
theorem dL_marks_2 : decode cL_marks 2 = .ok (.aload_n 0, 1) := by decide +kernel
theorem dL_marks_3 : decode cL_marks 3 = .ok (.iload_n 1, 1) := by decide +kernel
theorem dL_marks_4 : decode cL_marks 4 = .ok (.invokevirtual 23, 3) := by decide +kernel
theorem dL_marks_7 : decode cL_marks 7 = .ok (.i2l, 1) := by decide +kernel
theorem dL_marks_8 : decode cL_marks 8 = .ok (.lastore, 1) := by decide +kernel
theorem dL_marks_9 : decode cL_marks 9 = .ok (.goto 6, 3) := by decide +kernel
theorem dL_marks_12 : decode cL_marks 12 = .ok (.astore_n 3, 1) := by decide +kernel
theorem dL_marks_13 : decode cL_marks 13 = .ok (.iconst 1, 1) := by decide +kernel
theorem dL_marks_14 : decode cL_marks 14 = .ok (.ireturn, 1) := by decide +kernel
theorem dL_marks_15 : decode cL_marks 15 = .ok (.iconst 0, 1) := by decide +kernel
theorem dL_marks_16 : decode cL_marks 16 = .ok (.ireturn, 1) := by decide +kernel
theorem hdL_marks_0 : Hd jL_marks 4 eN 1 := ⟨[], ⟨0, 9, 12, 21⟩, [], 3, 1, rfl, by decide, by decide, w_908, .inl rfl, .inr ⟨3, rfl, dL_marks_12, rfl⟩, by decide, fun G h Q q => s_iconst 1 dL_marks_13 (by decide) (s_ireturn dL_marks_14 rfl q)⟩
theorem mL_marks {v1 : Int32} (hi : Iv h) (k : WM G jX10_marks [.ref 0, .int v1] h (HpQ (some 1) none Q)) : WM G jL_marks [.ref 0, .int v1, .ref 116] h Q := by
  refine WM.bodyH (ls := [some (.ref 0), some (.int v1), some (.ref 116), none]) rfl (by decide +kernel) rfl (Nat.le_of_ble_eq_true rfl) rfl ?_
  refine s_aload_n dL_marks_0 rfl (s_iconst 0 dL_marks_1 (by decide) (s_aload_n dL_marks_2 rfl (s_iload_n dL_marks_3 rfl (s_callVH (As := [.int v1]) (Nat.le_of_ble_eq_true rfl) dL_marks_4 lvL_23 ⟨Nat.le_of_ble_eq_true rfl, Nat.le_of_ble_eq_true rfl⟩ (hi.sh rfl rfl) ⟨_, _, by decide, rfl⟩ rfl (Nat.le_of_ble_eq_true rfl) (k.mono ?_)))))
  intro o g q
  match o, q with
  | .inl (some (.int r)), q => exact s_i2l dL_marks_7 (s_lastore dL_marks_8 (q.1.sh rfl rfl) (by unfold vp_in; decide) (s_goto 15 dL_marks_9 rfl (s_iconst 0 dL_marks_15 (by decide) (s_ireturn dL_marks_16 rfl q.2))))
  | .inr E, ⟨K, e, q⟩ =>
    rcases e with ⟨e1, e2⟩ | ⟨e1, e2⟩
    · cases e2; exact ⟨_, by rw [e1]; exact hdL_marks_0, q⟩
    · cases e2
theorem lhL_105 : kLH RL 105 jL_marks 3 := ⟨rfl, gT_in (List.mem_of_getElem? (i := 987) (by decide +kernel)) rfl, w_93, ⟨by decide +kernel, by decide +kernel⟩, by decide +kernel, w_985, w_986⟩
theorem dL_count_0 : decode cL_count 0 = .ok (.aload_n 2, 1) := by decide +kernel
theorem dL_count_1 : decode cL_count 1 = .ok (.iconst 0, 1) := by decide +kernel
theorem dL_count_2 : decode cL_count 2 = .ok (.aload_n 0, 1) := by decide +kernel
theorem dL_count_3 : decode cL_count 3 = .ok (.iload_n 1, 1) := by decide +kernel
theorem dL_count_4 : decode cL_count 4 = .ok (.invokevirtual 26, 3) := by decide +kernel
theorem dL_count_7 : decode cL_count 7 = .ok (.i2l, 1) := by decide +kernel
theorem dL_count_8 : decode cL_count 8 = .ok (.lastore, 1) := by decide +kernel
theorem dL_count_9 : decode cL_count 9 = .ok (.goto 6, 3) := by decide +kernel
theorem dL_count_12 : decode cL_count 12 = .ok (.astore_n 3, 1) := by decide +kernel
theorem dL_count_13 : decode cL_count 13 = .ok (.iconst 1, 1) := by decide +kernel
theorem dL_count_14 : decode cL_count 14 = .ok (.ireturn, 1) := by decide +kernel
theorem dL_count_15 : decode cL_count 15 = .ok (.iconst 0, 1) := by decide +kernel
theorem dL_count_16 : decode cL_count 16 = .ok (.ireturn, 1) := by decide +kernel
theorem hdL_count_0 : Hd jL_count 4 eN 1 := ⟨[], ⟨0, 9, 12, 21⟩, [], 3, 1, rfl, by decide, by decide, w_908, .inl rfl, .inr ⟨3, rfl, dL_count_12, rfl⟩, by decide, fun G h Q q => s_iconst 1 dL_count_13 (by decide) (s_ireturn dL_count_14 rfl q)⟩
theorem mL_count {v1 : Int32} (hi : Iv h) (k : WM G jX10_count [.ref 0, .int v1] h (HpQ (some 1) none Q)) : WM G jL_count [.ref 0, .int v1, .ref 116] h Q := by
  refine WM.bodyH (ls := [some (.ref 0), some (.int v1), some (.ref 116), none]) rfl (by decide +kernel) rfl (Nat.le_of_ble_eq_true rfl) rfl ?_
  refine s_aload_n dL_count_0 rfl (s_iconst 0 dL_count_1 (by decide) (s_aload_n dL_count_2 rfl (s_iload_n dL_count_3 rfl (s_callVH (As := [.int v1]) (Nat.le_of_ble_eq_true rfl) dL_count_4 lvL_26 ⟨Nat.le_of_ble_eq_true rfl, Nat.le_of_ble_eq_true rfl⟩ (hi.sh rfl rfl) ⟨_, _, by decide, rfl⟩ rfl (Nat.le_of_ble_eq_true rfl) (k.mono ?_)))))
  intro o g q
  match o, q with
  | .inl (some (.int r)), q => exact s_i2l dL_count_7 (s_lastore dL_count_8 (q.1.sh rfl rfl) (by unfold vp_in; decide) (s_goto 15 dL_count_9 rfl (s_iconst 0 dL_count_15 (by decide) (s_ireturn dL_count_16 rfl q.2))))
  | .inr E, ⟨K, e, q⟩ =>
    rcases e with ⟨e1, e2⟩ | ⟨e1, e2⟩
    · cases e2; exact ⟨_, by rw [e1]; exact hdL_count_0, q⟩
    · cases e2
theorem lhL_112 : kLH RL 112 jL_count 3 := ⟨rfl, gT_in (List.mem_of_getElem? (i := 999) (by decide +kernel)) rfl, w_93, ⟨by decide +kernel, by decide +kernel⟩, by decide +kernel, w_997, w_998⟩
theorem dL_pendulum_0 : decode cL_pendulum 0 = .ok (.aload_n 3, 1) := by decide +kernel
theorem dL_pendulum_1 : decode cL_pendulum 1 = .ok (.iconst 0, 1) := by decide +kernel
theorem dL_pendulum_2 : decode cL_pendulum 2 = .ok (.aload_n 0, 1) := by decide +kernel
theorem dL_pendulum_3 : decode cL_pendulum 3 = .ok (.iload_n 1, 1) := by decide +kernel
theorem dL_pendulum_4 : decode cL_pendulum 4 = .ok (.iload_n 2, 1) := by decide +kernel
theorem dL_pendulum_5 : decode cL_pendulum 5 = .ok (.invokevirtual 29, 3) := by decide +kernel
theorem dL_pendulum_8 : decode cL_pendulum 8 = .ok (.i2l, 1) := by decide +kernel
theorem dL_pendulum_9 : decode cL_pendulum 9 = .ok (.lastore, 1) := by decide +kernel
theorem dL_pendulum_10 : decode cL_pendulum 10 = .ok (.goto 7, 3) := by decide +kernel
theorem dL_pendulum_13 : decode cL_pendulum 13 = .ok (.astore 4, 2) := by decide +kernel
theorem dL_pendulum_15 : decode cL_pendulum 15 = .ok (.iconst 1, 1) := by decide +kernel
theorem dL_pendulum_16 : decode cL_pendulum 16 = .ok (.ireturn, 1) := by decide +kernel
theorem dL_pendulum_17 : decode cL_pendulum 17 = .ok (.iconst 0, 1) := by decide +kernel
theorem dL_pendulum_18 : decode cL_pendulum 18 = .ok (.ireturn, 1) := by decide +kernel
theorem hdL_pendulum_0 : Hd jL_pendulum 5 eN 1 := ⟨[], ⟨0, 10, 13, 21⟩, [], 4, 2, rfl, by decide, by decide, w_908, .inl rfl, .inl ⟨dL_pendulum_13, rfl⟩, by decide, fun G h Q q => s_iconst 1 dL_pendulum_15 (by decide) (s_ireturn dL_pendulum_16 rfl q)⟩
theorem mL_pendulum {v1 v2 : Int32} (hi : Iv h) (k : WM G jX10_pendulum [.ref 0, .int v1, .int v2] h (HpQ (some 1) none Q)) : WM G jL_pendulum [.ref 0, .int v1, .int v2, .ref 116] h Q := by
  refine WM.bodyH (ls := [some (.ref 0), some (.int v1), some (.int v2), some (.ref 116), none]) rfl (by decide +kernel) rfl (Nat.le_of_ble_eq_true rfl) rfl ?_
  refine s_aload_n dL_pendulum_0 rfl (s_iconst 0 dL_pendulum_1 (by decide) (s_aload_n dL_pendulum_2 rfl (s_iload_n dL_pendulum_3 rfl (s_iload_n dL_pendulum_4 rfl (s_callVH (As := [.int v1, .int v2]) (Nat.le_of_ble_eq_true rfl) dL_pendulum_5 lvL_29 ⟨Nat.le_of_ble_eq_true rfl, Nat.le_of_ble_eq_true rfl⟩ (hi.sh rfl rfl) ⟨_, _, by decide, rfl⟩ rfl (Nat.le_of_ble_eq_true rfl) (k.mono ?_))))))
  intro o g q
  match o, q with
  | .inl (some (.int r)), q => exact s_i2l dL_pendulum_8 (s_lastore dL_pendulum_9 (q.1.sh rfl rfl) (by unfold vp_in; decide) (s_goto 17 dL_pendulum_10 rfl (s_iconst 0 dL_pendulum_17 (by decide) (s_ireturn dL_pendulum_18 rfl q.2))))
  | .inr E, ⟨K, e, q⟩ =>
    rcases e with ⟨e1, e2⟩ | ⟨e1, e2⟩
    · cases e2; exact ⟨_, by rw [e1]; exact hdL_pendulum_0, q⟩
    · cases e2
theorem lhL_115 : kLH RL 115 jL_pendulum 4 := ⟨rfl, gT_in (List.mem_of_getElem? (i := 1006) (by decide +kernel)) rfl, w_93, ⟨by decide +kernel, by decide +kernel⟩, by decide +kernel, w_1004, w_1005⟩
theorem dL_set_0 : decode cL_set 0 = .ok (.aload 4, 2) := by decide +kernel
theorem dL_set_2 : decode cL_set 2 = .ok (.iconst 0, 1) := by decide +kernel
theorem dL_set_3 : decode cL_set 3 = .ok (.aload_n 0, 1) := by decide +kernel
theorem dL_set_4 : decode cL_set 4 = .ok (.iload_n 1, 1) := by decide +kernel
theorem dL_set_5 : decode cL_set 5 = .ok (.iload_n 2, 1) := by decide +kernel
theorem dL_set_6 : decode cL_set 6 = .ok (.iload_n 3, 1) := by decide +kernel
theorem dL_set_7 : decode cL_set 7 = .ok (.invokevirtual 33, 3) := by decide +kernel
theorem dL_set_10 : decode cL_set 10 = .ok (.i2l, 1) := by decide +kernel
theorem dL_set_11 : decode cL_set 11 = .ok (.lastore, 1) := by decide +kernel
theorem dL_set_12 : decode cL_set 12 = .ok (.goto 7, 3) := by decide +kernel
theorem dL_set_15 : decode cL_set 15 = .ok (.astore 5, 2) := by decide +kernel
theorem dL_set_17 : decode cL_set 17 = .ok (.iconst 1, 1) := by decide +kernel
theorem dL_set_18 : decode cL_set 18 = .ok (.ireturn, 1) := by decide +kernel
theorem dL_set_19 : decode cL_set 19 = .ok (.iconst 0, 1) := by decide +kernel
theorem dL_set_20 : decode cL_set 20 = .ok (.ireturn, 1) := by decide +kernel
theorem hdL_set_0 : Hd jL_set 7 eN 1 := ⟨[], ⟨0, 12, 15, 21⟩, [], 5, 2, rfl, by decide, by decide, w_908, .inl rfl, .inl ⟨dL_set_15, rfl⟩, by decide, fun G h Q q => s_iconst 1 dL_set_17 (by decide) (s_ireturn dL_set_18 rfl q)⟩
theorem mL_set {v1 v2 v3 : Int32} (hi : Iv h) (k : WM G jX10_set [.ref 0, .int v1, .int v2, .int v3] h (HpQ (some 1) none Q)) : WM G jL_set [.ref 0, .int v1, .int v2, .int v3, .ref 116] h Q := by
  refine WM.bodyH (ls := [some (.ref 0), some (.int v1), some (.int v2), some (.int v3), some (.ref 116), none]) rfl (by decide +kernel) rfl (Nat.le_of_ble_eq_true rfl) rfl ?_
  refine s_aload dL_set_0 rfl (s_iconst 0 dL_set_2 (by decide) (s_aload_n dL_set_3 rfl (s_iload_n dL_set_4 rfl (s_iload_n dL_set_5 rfl (s_iload_n dL_set_6 rfl (s_callVH (As := [.int v1, .int v2, .int v3]) (Nat.le_of_ble_eq_true rfl) dL_set_7 lvL_33 ⟨Nat.le_of_ble_eq_true rfl, Nat.le_of_ble_eq_true rfl⟩ (hi.sh rfl rfl) ⟨_, _, by decide, rfl⟩ rfl (Nat.le_of_ble_eq_true rfl) (k.mono ?_)))))))
  intro o g q
  match o, q with
  | .inl (some (.int r)), q => exact s_i2l dL_set_10 (s_lastore dL_set_11 (q.1.sh rfl rfl) (by unfold vp_in; decide) (s_goto 19 dL_set_12 rfl (s_iconst 0 dL_set_19 (by decide) (s_ireturn dL_set_20 rfl q.2))))
  | .inr E, ⟨K, e, q⟩ =>
    rcases e with ⟨e1, e2⟩ | ⟨e1, e2⟩
    · cases e2; exact ⟨_, by rw [e1]; exact hdL_set_0, q⟩
    · cases e2
theorem lhL_119 : kLH RL 119 jL_set 5 := ⟨rfl, gT_in (List.mem_of_getElem? (i := 1018) (by decide +kernel)) rfl, w_93, ⟨by decide +kernel, by decide +kernel⟩, by decide +kernel, w_1016, w_1017⟩
theorem dL_swing_0 : decode cL_swing 0 = .ok (.aload_n 3, 1) := by decide +kernel
theorem dL_swing_1 : decode cL_swing 1 = .ok (.iconst 0, 1) := by decide +kernel
theorem dL_swing_2 : decode cL_swing 2 = .ok (.aload_n 0, 1) := by decide +kernel
theorem dL_swing_3 : decode cL_swing 3 = .ok (.iload_n 1, 1) := by decide +kernel
theorem dL_swing_4 : decode cL_swing 4 = .ok (.iload_n 2, 1) := by decide +kernel
theorem dL_swing_5 : decode cL_swing 5 = .ok (.invokevirtual 37, 3) := by decide +kernel
theorem dL_swing_8 : decode cL_swing 8 = .ok (.i2l, 1) := by decide +kernel
theorem dL_swing_9 : decode cL_swing 9 = .ok (.lastore, 1) := by decide +kernel
theorem dL_swing_10 : decode cL_swing 10 = .ok (.goto 11, 3) := by decide +kernel
theorem dL_swing_13 : decode cL_swing 13 = .ok (.astore 4, 2) := by decide +kernel
theorem dL_swing_15 : decode cL_swing 15 = .ok (.iconst 1, 1) := by decide +kernel
theorem dL_swing_16 : decode cL_swing 16 = .ok (.ireturn, 1) := by decide +kernel
theorem dL_swing_17 : decode cL_swing 17 = .ok (.astore 4, 2) := by decide +kernel
theorem dL_swing_19 : decode cL_swing 19 = .ok (.iconst 2, 1) := by decide +kernel
theorem dL_swing_20 : decode cL_swing 20 = .ok (.ireturn, 1) := by decide +kernel
theorem dL_swing_21 : decode cL_swing 21 = .ok (.iconst 0, 1) := by decide +kernel
theorem dL_swing_22 : decode cL_swing 22 = .ok (.ireturn, 1) := by decide +kernel
theorem hdL_swing_0 : Hd jL_swing 5 eN 1 := ⟨[], ⟨0, 10, 13, 21⟩, [⟨0, 10, 17, 13⟩], 4, 2, rfl, by decide, by decide, w_908, .inl rfl, .inl ⟨dL_swing_13, rfl⟩, by decide, fun G h Q q => s_iconst 1 dL_swing_15 (by decide) (s_ireturn dL_swing_16 rfl q)⟩
theorem hdL_swing_1 : Hd jL_swing 5 eI 2 := ⟨[⟨0, 10, 13, 21⟩], ⟨0, 10, 17, 13⟩, [], 4, 2, rfl, by decide, by decide, w_611, .inr ⟨rfl, _, rfl, by decide, w_908⟩, .inl ⟨dL_swing_17, rfl⟩, by decide, fun G h Q q => s_iconst 2 dL_swing_19 (by decide) (s_ireturn dL_swing_20 rfl q)⟩
theorem mL_swing {v1 v2 : Int32} (hi : Iv h) (k : WM G jX10_swing [.ref 0, .int v1, .int v2] h (HpQ (some 1) (some 2) Q)) : WM G jL_swing [.ref 0, .int v1, .int v2, .ref 116] h Q := by
  refine WM.bodyH (ls := [some (.ref 0), some (.int v1), some (.int v2), some (.ref 116), none]) rfl (by decide +kernel) rfl (Nat.le_of_ble_eq_true rfl) rfl ?_
  refine s_aload_n dL_swing_0 rfl (s_iconst 0 dL_swing_1 (by decide) (s_aload_n dL_swing_2 rfl (s_iload_n dL_swing_3 rfl (s_iload_n dL_swing_4 rfl (s_callVH (As := [.int v1, .int v2]) (Nat.le_of_ble_eq_true rfl) dL_swing_5 lvL_37 ⟨Nat.le_of_ble_eq_true rfl, Nat.le_of_ble_eq_true rfl⟩ (hi.sh rfl rfl) ⟨_, _, by decide, rfl⟩ rfl (Nat.le_of_ble_eq_true rfl) (k.mono ?_))))))
  intro o g q
  match o, q with
  | .inl (some (.int r)), q => exact s_i2l dL_swing_8 (s_lastore dL_swing_9 (q.1.sh rfl rfl) (by unfold vp_in; decide) (s_goto 21 dL_swing_10 rfl (s_iconst 0 dL_swing_21 (by decide) (s_ireturn dL_swing_22 rfl q.2))))
  | .inr E, ⟨K, e, q⟩ =>
    rcases e with ⟨e1, e2⟩ | ⟨e1, e2⟩
    · cases e2; exact ⟨_, by rw [e1]; exact hdL_swing_0, q⟩
    · cases e2; exact ⟨_, by rw [e1]; exact hdL_swing_1, q⟩
theorem lhL_123 : kLH RL 123 jL_swing 4 := ⟨rfl, gT_in (List.mem_of_getElem? (i := 1028) (by decide +kernel)) rfl, w_93, ⟨by decide +kernel, by decide +kernel⟩, by decide +kernel, w_1026, w_1027⟩
theorem dL_pen_0 : decode cL_pen 0 = .ok (.aload_n 3, 1) := by decide +kernel
theorem dL_pen_1 : decode cL_pen 1 = .ok (.iconst 0, 1) := by decide +kernel
theorem dL_pen_2 : decode cL_pen 2 = .ok (.aload_n 0, 1) := by decide +kernel
theorem dL_pen_3 : decode cL_pen 3 = .ok (.iload_n 1, 1) := by decide +kernel
theorem dL_pen_4 : decode cL_pen 4 = .ok (.iload_n 2, 1) := by decide +kernel
theorem dL_pen_5 : decode cL_pen 5 = .ok (.invokevirtual 40, 3) := by decide +kernel
theorem dL_pen_8 : decode cL_pen 8 = .ok (.i2l, 1) := by decide +kernel
theorem dL_pen_9 : decode cL_pen 9 = .ok (.lastore, 1) := by decide +kernel
theorem dL_pen_10 : decode cL_pen 10 = .ok (.goto 11, 3) := by decide +kernel
theorem dL_pen_13 : decode cL_pen 13 = .ok (.astore 4, 2) := by decide +kernel
theorem dL_pen_15 : decode cL_pen 15 = .ok (.iconst 1, 1) := by decide +kernel
theorem dL_pen_16 : decode cL_pen 16 = .ok (.ireturn, 1) := by decide +kernel
theorem dL_pen_17 : decode cL_pen 17 = .ok (.astore 4, 2) := by decide +kernel
theorem dL_pen_19 : decode cL_pen 19 = .ok (.iconst 2, 1) := by decide +kernel
theorem dL_pen_20 : decode cL_pen 20 = .ok (.ireturn, 1) := by decide +kernel
theorem dL_pen_21 : decode cL_pen 21 = .ok (.iconst 0, 1) := by decide +kernel
theorem dL_pen_22 : decode cL_pen 22 = .ok (.ireturn, 1) := by decide +kernel
theorem hdL_pen_0 : Hd jL_pen 5 eN 1 := ⟨[], ⟨0, 10, 13, 21⟩, [⟨0, 10, 17, 13⟩], 4, 2, rfl, by decide, by decide, w_908, .inl rfl, .inl ⟨dL_pen_13, rfl⟩, by decide, fun G h Q q => s_iconst 1 dL_pen_15 (by decide) (s_ireturn dL_pen_16 rfl q)⟩
theorem hdL_pen_1 : Hd jL_pen 5 eI 2 := ⟨[⟨0, 10, 13, 21⟩], ⟨0, 10, 17, 13⟩, [], 4, 2, rfl, by decide, by decide, w_611, .inr ⟨rfl, _, rfl, by decide, w_908⟩, .inl ⟨dL_pen_17, rfl⟩, by decide, fun G h Q q => s_iconst 2 dL_pen_19 (by decide) (s_ireturn dL_pen_20 rfl q)⟩
theorem mL_pen {v1 v2 : Int32} (hi : Iv h) (k : WM G jX10_pen [.ref 0, .int v1, .int v2] h (HpQ (some 1) (some 2) Q)) : WM G jL_pen [.ref 0, .int v1, .int v2, .ref 116] h Q := by
  refine WM.bodyH (ls := [some (.ref 0), some (.int v1), some (.int v2), some (.ref 116), none]) rfl (by decide +kernel) rfl (Nat.le_of_ble_eq_true rfl) rfl ?_
  refine s_aload_n dL_pen_0 rfl (s_iconst 0 dL_pen_1 (by decide) (s_aload_n dL_pen_2 rfl (s_iload_n dL_pen_3 rfl (s_iload_n dL_pen_4 rfl (s_callVH (As := [.int v1, .int v2]) (Nat.le_of_ble_eq_true rfl) dL_pen_5 lvL_40 ⟨Nat.le_of_ble_eq_true rfl, Nat.le_of_ble_eq_true rfl⟩ (hi.sh rfl rfl) ⟨_, _, by decide, rfl⟩ rfl (Nat.le_of_ble_eq_true rfl) (k.mono ?_))))))
  intro o g q
  match o, q with
  | .inl (some (.int r)), q => exact s_i2l dL_pen_8 (s_lastore dL_pen_9 (q.1.sh rfl rfl) (by unfold vp_in; decide) (s_goto 21 dL_pen_10 rfl (s_iconst 0 dL_pen_21 (by decide) (s_ireturn dL_pen_22 rfl q.2))))
  | .inr E, ⟨K, e, q⟩ =>
    rcases e with ⟨e1, e2⟩ | ⟨e1, e2⟩
    · cases e2; exact ⟨_, by rw [e1]; exact hdL_pen_0, q⟩
    · cases e2; exact ⟨_, by rw [e1]; exact hdL_pen_1, q⟩
theorem lhL_126 : kLH RL 126 jL_pen 4 := ⟨rfl, gT_in (List.mem_of_getElem? (i := 1040) (by decide +kernel)) rfl, w_93, ⟨by decide +kernel, by decide +kernel⟩, by decide +kernel, w_1038, w_1039⟩
theorem dL_drawn_0 : decode cL_drawn 0 = .ok (.aload_n 3, 1) := by decide +kernel
theorem dL_drawn_1 : decode cL_drawn 1 = .ok (.iconst 0, 1) := by decide +kernel
theorem dL_drawn_2 : decode cL_drawn 2 = .ok (.aload_n 0, 1) := by decide +kernel
theorem dL_drawn_3 : decode cL_drawn 3 = .ok (.iload_n 1, 1) := by decide +kernel
theorem dL_drawn_4 : decode cL_drawn 4 = .ok (.iload_n 2, 1) := by decide +kernel
theorem dL_drawn_5 : decode cL_drawn 5 = .ok (.invokevirtual 43, 3) := by decide +kernel
theorem dL_drawn_8 : decode cL_drawn 8 = .ok (.i2l, 1) := by decide +kernel
theorem dL_drawn_9 : decode cL_drawn 9 = .ok (.lastore, 1) := by decide +kernel
theorem dL_drawn_10 : decode cL_drawn 10 = .ok (.goto 7, 3) := by decide +kernel
theorem dL_drawn_13 : decode cL_drawn 13 = .ok (.astore 4, 2) := by decide +kernel
theorem dL_drawn_15 : decode cL_drawn 15 = .ok (.iconst 1, 1) := by decide +kernel
theorem dL_drawn_16 : decode cL_drawn 16 = .ok (.ireturn, 1) := by decide +kernel
theorem dL_drawn_17 : decode cL_drawn 17 = .ok (.iconst 0, 1) := by decide +kernel
theorem dL_drawn_18 : decode cL_drawn 18 = .ok (.ireturn, 1) := by decide +kernel
theorem hdL_drawn_0 : Hd jL_drawn 5 eI 1 := ⟨[], ⟨0, 10, 13, 13⟩, [], 4, 2, rfl, by decide, by decide, w_611, .inl rfl, .inl ⟨dL_drawn_13, rfl⟩, by decide, fun G h Q q => s_iconst 1 dL_drawn_15 (by decide) (s_ireturn dL_drawn_16 rfl q)⟩
theorem mL_drawn {v1 v2 : Int32} (hi : Iv h) (k : WM G jX10_drawn [.ref 0, .int v1, .int v2] h (HpQ none (some 1) Q)) : WM G jL_drawn [.ref 0, .int v1, .int v2, .ref 116] h Q := by
  refine WM.bodyH (ls := [some (.ref 0), some (.int v1), some (.int v2), some (.ref 116), none]) rfl (by decide +kernel) rfl (Nat.le_of_ble_eq_true rfl) rfl ?_
  refine s_aload_n dL_drawn_0 rfl (s_iconst 0 dL_drawn_1 (by decide) (s_aload_n dL_drawn_2 rfl (s_iload_n dL_drawn_3 rfl (s_iload_n dL_drawn_4 rfl (s_callVH (As := [.int v1, .int v2]) (Nat.le_of_ble_eq_true rfl) dL_drawn_5 lvL_43 ⟨Nat.le_of_ble_eq_true rfl, Nat.le_of_ble_eq_true rfl⟩ (hi.sh rfl rfl) ⟨_, _, by decide, rfl⟩ rfl (Nat.le_of_ble_eq_true rfl) (k.mono ?_))))))
  intro o g q
  match o, q with
  | .inl (some (.int r)), q => exact s_i2l dL_drawn_8 (s_lastore dL_drawn_9 (q.1.sh rfl rfl) (by unfold vp_in; decide) (s_goto 17 dL_drawn_10 rfl (s_iconst 0 dL_drawn_17 (by decide) (s_ireturn dL_drawn_18 rfl q.2))))
  | .inr E, ⟨K, e, q⟩ =>
    rcases e with ⟨e1, e2⟩ | ⟨e1, e2⟩
    · cases e2
    · cases e2; exact ⟨_, by rw [e1]; exact hdL_drawn_0, q⟩
theorem lhL_129 : kLH RL 129 jL_drawn 4 := ⟨rfl, gT_in (List.mem_of_getElem? (i := 1048) (by decide +kernel)) rfl, w_93, ⟨by decide +kernel, by decide +kernel⟩, by decide +kernel, w_1046, w_1047⟩
theorem dL_inCell_0 : decode cL_inCell 0 = .ok (.aload 4, 2) := by decide +kernel
theorem dL_inCell_2 : decode cL_inCell 2 = .ok (.iconst 0, 1) := by decide +kernel
theorem dL_inCell_3 : decode cL_inCell 3 = .ok (.aload_n 0, 1) := by decide +kernel
theorem dL_inCell_4 : decode cL_inCell 4 = .ok (.iload_n 1, 1) := by decide +kernel
theorem dL_inCell_5 : decode cL_inCell 5 = .ok (.iload_n 2, 1) := by decide +kernel
theorem dL_inCell_6 : decode cL_inCell 6 = .ok (.iload_n 3, 1) := by decide +kernel
theorem dL_inCell_7 : decode cL_inCell 7 = .ok (.invokevirtual 46, 3) := by decide +kernel
theorem dL_inCell_10 : decode cL_inCell 10 = .ok (.i2l, 1) := by decide +kernel
theorem dL_inCell_11 : decode cL_inCell 11 = .ok (.lastore, 1) := by decide +kernel
theorem dL_inCell_12 : decode cL_inCell 12 = .ok (.goto 11, 3) := by decide +kernel
theorem dL_inCell_15 : decode cL_inCell 15 = .ok (.astore 5, 2) := by decide +kernel
theorem dL_inCell_17 : decode cL_inCell 17 = .ok (.iconst 1, 1) := by decide +kernel
theorem dL_inCell_18 : decode cL_inCell 18 = .ok (.ireturn, 1) := by decide +kernel
theorem dL_inCell_19 : decode cL_inCell 19 = .ok (.astore 5, 2) := by decide +kernel
theorem dL_inCell_21 : decode cL_inCell 21 = .ok (.iconst 2, 1) := by decide +kernel
theorem dL_inCell_22 : decode cL_inCell 22 = .ok (.ireturn, 1) := by decide +kernel
theorem dL_inCell_23 : decode cL_inCell 23 = .ok (.iconst 0, 1) := by decide +kernel
theorem dL_inCell_24 : decode cL_inCell 24 = .ok (.ireturn, 1) := by decide +kernel
theorem hdL_inCell_0 : Hd jL_inCell 7 eN 1 := ⟨[], ⟨0, 12, 15, 21⟩, [⟨0, 12, 19, 13⟩], 5, 2, rfl, by decide, by decide, w_908, .inl rfl, .inl ⟨dL_inCell_15, rfl⟩, by decide, fun G h Q q => s_iconst 1 dL_inCell_17 (by decide) (s_ireturn dL_inCell_18 rfl q)⟩
theorem hdL_inCell_1 : Hd jL_inCell 7 eI 2 := ⟨[⟨0, 12, 15, 21⟩], ⟨0, 12, 19, 13⟩, [], 5, 2, rfl, by decide, by decide, w_611, .inr ⟨rfl, _, rfl, by decide, w_908⟩, .inl ⟨dL_inCell_19, rfl⟩, by decide, fun G h Q q => s_iconst 2 dL_inCell_21 (by decide) (s_ireturn dL_inCell_22 rfl q)⟩
theorem mL_inCell {v1 v2 v3 : Int32} (hi : Iv h) (k : WM G jX10_inCell [.ref 0, .int v1, .int v2, .int v3] h (HpQ (some 1) (some 2) Q)) : WM G jL_inCell [.ref 0, .int v1, .int v2, .int v3, .ref 116] h Q := by
  refine WM.bodyH (ls := [some (.ref 0), some (.int v1), some (.int v2), some (.int v3), some (.ref 116), none]) rfl (by decide +kernel) rfl (Nat.le_of_ble_eq_true rfl) rfl ?_
  refine s_aload dL_inCell_0 rfl (s_iconst 0 dL_inCell_2 (by decide) (s_aload_n dL_inCell_3 rfl (s_iload_n dL_inCell_4 rfl (s_iload_n dL_inCell_5 rfl (s_iload_n dL_inCell_6 rfl (s_callVH (As := [.int v1, .int v2, .int v3]) (Nat.le_of_ble_eq_true rfl) dL_inCell_7 lvL_46 ⟨Nat.le_of_ble_eq_true rfl, Nat.le_of_ble_eq_true rfl⟩ (hi.sh rfl rfl) ⟨_, _, by decide, rfl⟩ rfl (Nat.le_of_ble_eq_true rfl) (k.mono ?_)))))))
  intro o g q
  match o, q with
  | .inl (some (.int r)), q => exact s_i2l dL_inCell_10 (s_lastore dL_inCell_11 (q.1.sh rfl rfl) (by unfold vp_in; decide) (s_goto 23 dL_inCell_12 rfl (s_iconst 0 dL_inCell_23 (by decide) (s_ireturn dL_inCell_24 rfl q.2))))
  | .inr E, ⟨K, e, q⟩ =>
    rcases e with ⟨e1, e2⟩ | ⟨e1, e2⟩
    · cases e2; exact ⟨_, by rw [e1]; exact hdL_inCell_0, q⟩
    · cases e2; exact ⟨_, by rw [e1]; exact hdL_inCell_1, q⟩
theorem lhL_132 : kLH RL 132 jL_inCell 5 := ⟨rfl, gT_in (List.mem_of_getElem? (i := 1074) (by decide +kernel)) rfl, w_93, ⟨by decide +kernel, by decide +kernel⟩, by decide +kernel, w_1072, w_1073⟩
theorem dL_take_0 : decode cL_take 0 = .ok (.aload_n 0, 1) := by decide +kernel
theorem dL_take_1 : decode cL_take 1 = .ok (.iload_n 1, 1) := by decide +kernel
theorem dL_take_2 : decode cL_take 2 = .ok (.invokevirtual 49, 3) := by decide +kernel
theorem dL_take_5 : decode cL_take 5 = .ok (.goto 6, 3) := by decide +kernel
theorem dL_take_8 : decode cL_take 8 = .ok (.astore_n 2, 1) := by decide +kernel
theorem dL_take_9 : decode cL_take 9 = .ok (.iconst 1, 1) := by decide +kernel
theorem dL_take_10 : decode cL_take 10 = .ok (.ireturn, 1) := by decide +kernel
theorem dL_take_11 : decode cL_take 11 = .ok (.iconst 0, 1) := by decide +kernel
theorem dL_take_12 : decode cL_take 12 = .ok (.ireturn, 1) := by decide +kernel
theorem hdL_take_0 : Hd jL_take 2 eN 1 := ⟨[], ⟨0, 5, 8, 21⟩, [], 2, 1, rfl, by decide, by decide, w_908, .inl rfl, .inr ⟨2, rfl, dL_take_8, rfl⟩, by decide, fun G h Q q => s_iconst 1 dL_take_9 (by decide) (s_ireturn dL_take_10 rfl q)⟩
theorem mL_take {v1 : Int32} (hi : Iv h) (k : WM G jX10_take [.ref 0, .int v1] h (HpV (some 1) Q)) : WM G jL_take [.ref 0, .int v1] h Q := by
  refine WM.bodyH (ls := [some (.ref 0), some (.int v1), none]) rfl (by decide +kernel) rfl (Nat.le_of_ble_eq_true rfl) rfl ?_
  refine s_aload_n dL_take_0 rfl (s_iload_n dL_take_1 rfl (s_callVH (As := [.int v1]) (Nat.le_of_ble_eq_true rfl) dL_take_2 lvL_49 ⟨Nat.le_of_ble_eq_true rfl, Nat.le_of_ble_eq_true rfl⟩ (hi.sh rfl rfl) ⟨_, _, by decide, rfl⟩ rfl (Nat.le_of_ble_eq_true rfl) (k.mono ?_)))
  intro o g q
  match o, q with
  | .inl none, q => exact s_goto 11 dL_take_5 rfl (s_iconst 0 dL_take_11 (by decide) (s_ireturn dL_take_12 rfl q.2))
  | .inr E, ⟨K, ⟨e1, e2⟩, q⟩ => cases e2; exact ⟨_, by rw [e1]; exact hdL_take_0, q⟩
theorem lhL_147 : kLH RL 147 jL_take 2 := ⟨rfl, gT_in (List.mem_of_getElem? (i := 1081) (by decide +kernel)) rfl, w_93, ⟨by decide +kernel, by decide +kernel⟩, by decide +kernel, w_1079, w_1080⟩
theorem dL_alike_0 : decode cL_alike 0 = .ok (.aload_n 3, 1) := by decide +kernel
theorem dL_alike_1 : decode cL_alike 1 = .ok (.iconst 0, 1) := by decide +kernel
theorem dL_alike_2 : decode cL_alike 2 = .ok (.aload_n 0, 1) := by decide +kernel
theorem dL_alike_3 : decode cL_alike 3 = .ok (.iload_n 1, 1) := by decide +kernel
theorem dL_alike_4 : decode cL_alike 4 = .ok (.iload_n 2, 1) := by decide +kernel
theorem dL_alike_5 : decode cL_alike 5 = .ok (.invokevirtual 53, 3) := by decide +kernel
theorem dL_alike_8 : decode cL_alike 8 = .ok (.i2l, 1) := by decide +kernel
theorem dL_alike_9 : decode cL_alike 9 = .ok (.lastore, 1) := by decide +kernel
theorem dL_alike_10 : decode cL_alike 10 = .ok (.goto 7, 3) := by decide +kernel
theorem dL_alike_13 : decode cL_alike 13 = .ok (.astore 4, 2) := by decide +kernel
theorem dL_alike_15 : decode cL_alike 15 = .ok (.iconst 1, 1) := by decide +kernel
theorem dL_alike_16 : decode cL_alike 16 = .ok (.ireturn, 1) := by decide +kernel
theorem dL_alike_17 : decode cL_alike 17 = .ok (.iconst 0, 1) := by decide +kernel
theorem dL_alike_18 : decode cL_alike 18 = .ok (.ireturn, 1) := by decide +kernel
theorem hdL_alike_0 : Hd jL_alike 5 eN 1 := ⟨[], ⟨0, 10, 13, 21⟩, [], 4, 2, rfl, by decide, by decide, w_908, .inl rfl, .inl ⟨dL_alike_13, rfl⟩, by decide, fun G h Q q => s_iconst 1 dL_alike_15 (by decide) (s_ireturn dL_alike_16 rfl q)⟩
theorem mL_alike {v1 v2 : Int32} (hi : Iv h) (k : WM G jX10_alike [.ref 0, .int v1, .int v2] h (HpQ (some 1) none Q)) : WM G jL_alike [.ref 0, .int v1, .int v2, .ref 116] h Q := by
  refine WM.bodyH (ls := [some (.ref 0), some (.int v1), some (.int v2), some (.ref 116), none]) rfl (by decide +kernel) rfl (Nat.le_of_ble_eq_true rfl) rfl ?_
  refine s_aload_n dL_alike_0 rfl (s_iconst 0 dL_alike_1 (by decide) (s_aload_n dL_alike_2 rfl (s_iload_n dL_alike_3 rfl (s_iload_n dL_alike_4 rfl (s_callVH (As := [.int v1, .int v2]) (Nat.le_of_ble_eq_true rfl) dL_alike_5 lvL_53 ⟨Nat.le_of_ble_eq_true rfl, Nat.le_of_ble_eq_true rfl⟩ (hi.sh rfl rfl) ⟨_, _, by decide, rfl⟩ rfl (Nat.le_of_ble_eq_true rfl) (k.mono ?_))))))
  intro o g q
  match o, q with
  | .inl (some (.int r)), q => exact s_i2l dL_alike_8 (s_lastore dL_alike_9 (q.1.sh rfl rfl) (by unfold vp_in; decide) (s_goto 17 dL_alike_10 rfl (s_iconst 0 dL_alike_17 (by decide) (s_ireturn dL_alike_18 rfl q.2))))
  | .inr E, ⟨K, e, q⟩ =>
    rcases e with ⟨e1, e2⟩ | ⟨e1, e2⟩
    · cases e2; exact ⟨_, by rw [e1]; exact hdL_alike_0, q⟩
    · cases e2
theorem lhL_151 : kLH RL 151 jL_alike 4 := ⟨rfl, gT_in (List.mem_of_getElem? (i := 1097) (by decide +kernel)) rfl, w_93, ⟨by decide +kernel, by decide +kernel⟩, by decide +kernel, w_1095, w_1096⟩
theorem dL_kinds_0 : decode cL_kinds 0 = .ok (.aload_n 2, 1) := by decide +kernel
theorem dL_kinds_1 : decode cL_kinds 1 = .ok (.iconst 0, 1) := by decide +kernel
theorem dL_kinds_2 : decode cL_kinds 2 = .ok (.aload_n 0, 1) := by decide +kernel
theorem dL_kinds_3 : decode cL_kinds 3 = .ok (.iload_n 1, 1) := by decide +kernel
theorem dL_kinds_4 : decode cL_kinds 4 = .ok (.invokevirtual 56, 3) := by decide +kernel
theorem dL_kinds_7 : decode cL_kinds 7 = .ok (.i2l, 1) := by decide +kernel
theorem dL_kinds_8 : decode cL_kinds 8 = .ok (.lastore, 1) := by decide +kernel
theorem dL_kinds_9 : decode cL_kinds 9 = .ok (.goto 6, 3) := by decide +kernel
theorem dL_kinds_12 : decode cL_kinds 12 = .ok (.astore_n 3, 1) := by decide +kernel
theorem dL_kinds_13 : decode cL_kinds 13 = .ok (.iconst 1, 1) := by decide +kernel
theorem dL_kinds_14 : decode cL_kinds 14 = .ok (.ireturn, 1) := by decide +kernel
theorem dL_kinds_15 : decode cL_kinds 15 = .ok (.iconst 0, 1) := by decide +kernel
theorem dL_kinds_16 : decode cL_kinds 16 = .ok (.ireturn, 1) := by decide +kernel
theorem hdL_kinds_0 : Hd jL_kinds 4 eN 1 := ⟨[], ⟨0, 9, 12, 21⟩, [], 3, 1, rfl, by decide, by decide, w_908, .inl rfl, .inr ⟨3, rfl, dL_kinds_12, rfl⟩, by decide, fun G h Q q => s_iconst 1 dL_kinds_13 (by decide) (s_ireturn dL_kinds_14 rfl q)⟩
theorem mL_kinds {v1 : Int32} (hi : Iv h) (k : WM G jX10_kinds [.ref 0, .int v1] h (HpQ (some 1) none Q)) : WM G jL_kinds [.ref 0, .int v1, .ref 116] h Q := by
  refine WM.bodyH (ls := [some (.ref 0), some (.int v1), some (.ref 116), none]) rfl (by decide +kernel) rfl (Nat.le_of_ble_eq_true rfl) rfl ?_
  refine s_aload_n dL_kinds_0 rfl (s_iconst 0 dL_kinds_1 (by decide) (s_aload_n dL_kinds_2 rfl (s_iload_n dL_kinds_3 rfl (s_callVH (As := [.int v1]) (Nat.le_of_ble_eq_true rfl) dL_kinds_4 lvL_56 ⟨Nat.le_of_ble_eq_true rfl, Nat.le_of_ble_eq_true rfl⟩ (hi.sh rfl rfl) ⟨_, _, by decide, rfl⟩ rfl (Nat.le_of_ble_eq_true rfl) (k.mono ?_)))))
  intro o g q
  match o, q with
  | .inl (some (.int r)), q => exact s_i2l dL_kinds_7 (s_lastore dL_kinds_8 (q.1.sh rfl rfl) (by unfold vp_in; decide) (s_goto 15 dL_kinds_9 rfl (s_iconst 0 dL_kinds_15 (by decide) (s_ireturn dL_kinds_16 rfl q.2))))
  | .inr E, ⟨K, e, q⟩ =>
    rcases e with ⟨e1, e2⟩ | ⟨e1, e2⟩
    · cases e2; exact ⟨_, by rw [e1]; exact hdL_kinds_0, q⟩
    · cases e2
theorem lhL_154 : kLH RL 154 jL_kinds 3 := ⟨rfl, gT_in (List.mem_of_getElem? (i := 1141) (by decide +kernel)) rfl, w_93, ⟨by decide +kernel, by decide +kernel⟩, by decide +kernel, w_1139, w_1140⟩
theorem dL_fits_0 : decode cL_fits 0 = .ok (.aload 4, 2) := by decide +kernel
theorem dL_fits_2 : decode cL_fits 2 = .ok (.iconst 0, 1) := by decide +kernel
theorem dL_fits_3 : decode cL_fits 3 = .ok (.aload_n 0, 1) := by decide +kernel
theorem dL_fits_4 : decode cL_fits 4 = .ok (.iload_n 1, 1) := by decide +kernel
theorem dL_fits_5 : decode cL_fits 5 = .ok (.iload_n 2, 1) := by decide +kernel
theorem dL_fits_6 : decode cL_fits 6 = .ok (.iload_n 3, 1) := by decide +kernel
theorem dL_fits_7 : decode cL_fits 7 = .ok (.invokevirtual 59, 3) := by decide +kernel
theorem dL_fits_10 : decode cL_fits 10 = .ok (.i2l, 1) := by decide +kernel
theorem dL_fits_11 : decode cL_fits 11 = .ok (.lastore, 1) := by decide +kernel
theorem dL_fits_12 : decode cL_fits 12 = .ok (.goto 11, 3) := by decide +kernel
theorem dL_fits_15 : decode cL_fits 15 = .ok (.astore 5, 2) := by decide +kernel
theorem dL_fits_17 : decode cL_fits 17 = .ok (.iconst 1, 1) := by decide +kernel
theorem dL_fits_18 : decode cL_fits 18 = .ok (.ireturn, 1) := by decide +kernel
theorem dL_fits_19 : decode cL_fits 19 = .ok (.astore 5, 2) := by decide +kernel
theorem dL_fits_21 : decode cL_fits 21 = .ok (.iconst 2, 1) := by decide +kernel
theorem dL_fits_22 : decode cL_fits 22 = .ok (.ireturn, 1) := by decide +kernel
theorem dL_fits_23 : decode cL_fits 23 = .ok (.iconst 0, 1) := by decide +kernel
theorem dL_fits_24 : decode cL_fits 24 = .ok (.ireturn, 1) := by decide +kernel
theorem hdL_fits_0 : Hd jL_fits 7 eN 1 := ⟨[], ⟨0, 12, 15, 21⟩, [⟨0, 12, 19, 13⟩], 5, 2, rfl, by decide, by decide, w_908, .inl rfl, .inl ⟨dL_fits_15, rfl⟩, by decide, fun G h Q q => s_iconst 1 dL_fits_17 (by decide) (s_ireturn dL_fits_18 rfl q)⟩
theorem hdL_fits_1 : Hd jL_fits 7 eI 2 := ⟨[⟨0, 12, 15, 21⟩], ⟨0, 12, 19, 13⟩, [], 5, 2, rfl, by decide, by decide, w_611, .inr ⟨rfl, _, rfl, by decide, w_908⟩, .inl ⟨dL_fits_19, rfl⟩, by decide, fun G h Q q => s_iconst 2 dL_fits_21 (by decide) (s_ireturn dL_fits_22 rfl q)⟩
theorem mL_fits {v1 v2 v3 : Int32} (hi : Iv h) (k : WM G jX10_fits [.ref 0, .int v1, .int v2, .int v3] h (HpQ (some 1) (some 2) Q)) : WM G jL_fits [.ref 0, .int v1, .int v2, .int v3, .ref 116] h Q := by
  refine WM.bodyH (ls := [some (.ref 0), some (.int v1), some (.int v2), some (.int v3), some (.ref 116), none]) rfl (by decide +kernel) rfl (Nat.le_of_ble_eq_true rfl) rfl ?_
  refine s_aload dL_fits_0 rfl (s_iconst 0 dL_fits_2 (by decide) (s_aload_n dL_fits_3 rfl (s_iload_n dL_fits_4 rfl (s_iload_n dL_fits_5 rfl (s_iload_n dL_fits_6 rfl (s_callVH (As := [.int v1, .int v2, .int v3]) (Nat.le_of_ble_eq_true rfl) dL_fits_7 lvL_59 ⟨Nat.le_of_ble_eq_true rfl, Nat.le_of_ble_eq_true rfl⟩ (hi.sh rfl rfl) ⟨_, _, by decide, rfl⟩ rfl (Nat.le_of_ble_eq_true rfl) (k.mono ?_)))))))
  intro o g q
  match o, q with
  | .inl (some (.int r)), q => exact s_i2l dL_fits_10 (s_lastore dL_fits_11 (q.1.sh rfl rfl) (by unfold vp_in; decide) (s_goto 23 dL_fits_12 rfl (s_iconst 0 dL_fits_23 (by decide) (s_ireturn dL_fits_24 rfl q.2))))
  | .inr E, ⟨K, e, q⟩ =>
    rcases e with ⟨e1, e2⟩ | ⟨e1, e2⟩
    · cases e2; exact ⟨_, by rw [e1]; exact hdL_fits_0, q⟩
    · cases e2; exact ⟨_, by rw [e1]; exact hdL_fits_1, q⟩
theorem lhL_165 : kLH RL 165 jL_fits 5 := ⟨rfl, gT_in (List.mem_of_getElem? (i := 1152) (by decide +kernel)) rfl, w_93, ⟨by decide +kernel, by decide +kernel⟩, by decide +kernel, w_1150, w_1151⟩
theorem dL_chord_0 : decode cL_chord 0 = .ok (.aload 4, 2) := by decide +kernel
theorem dL_chord_2 : decode cL_chord 2 = .ok (.iconst 0, 1) := by decide +kernel
theorem dL_chord_3 : decode cL_chord 3 = .ok (.aload_n 0, 1) := by decide +kernel
theorem dL_chord_4 : decode cL_chord 4 = .ok (.iload_n 1, 1) := by decide +kernel
theorem dL_chord_5 : decode cL_chord 5 = .ok (.iload_n 2, 1) := by decide +kernel
theorem dL_chord_6 : decode cL_chord 6 = .ok (.iload_n 3, 1) := by decide +kernel
theorem dL_chord_7 : decode cL_chord 7 = .ok (.invokevirtual 62, 3) := by decide +kernel
theorem dL_chord_10 : decode cL_chord 10 = .ok (.i2l, 1) := by decide +kernel
theorem dL_chord_11 : decode cL_chord 11 = .ok (.lastore, 1) := by decide +kernel
theorem dL_chord_12 : decode cL_chord 12 = .ok (.goto 11, 3) := by decide +kernel
theorem dL_chord_15 : decode cL_chord 15 = .ok (.astore 5, 2) := by decide +kernel
theorem dL_chord_17 : decode cL_chord 17 = .ok (.iconst 1, 1) := by decide +kernel
theorem dL_chord_18 : decode cL_chord 18 = .ok (.ireturn, 1) := by decide +kernel
theorem dL_chord_19 : decode cL_chord 19 = .ok (.astore 5, 2) := by decide +kernel
theorem dL_chord_21 : decode cL_chord 21 = .ok (.iconst 2, 1) := by decide +kernel
theorem dL_chord_22 : decode cL_chord 22 = .ok (.ireturn, 1) := by decide +kernel
theorem dL_chord_23 : decode cL_chord 23 = .ok (.iconst 0, 1) := by decide +kernel
theorem dL_chord_24 : decode cL_chord 24 = .ok (.ireturn, 1) := by decide +kernel
theorem hdL_chord_0 : Hd jL_chord 7 eN 1 := ⟨[], ⟨0, 12, 15, 21⟩, [⟨0, 12, 19, 13⟩], 5, 2, rfl, by decide, by decide, w_908, .inl rfl, .inl ⟨dL_chord_15, rfl⟩, by decide, fun G h Q q => s_iconst 1 dL_chord_17 (by decide) (s_ireturn dL_chord_18 rfl q)⟩
theorem hdL_chord_1 : Hd jL_chord 7 eI 2 := ⟨[⟨0, 12, 15, 21⟩], ⟨0, 12, 19, 13⟩, [], 5, 2, rfl, by decide, by decide, w_611, .inr ⟨rfl, _, rfl, by decide, w_908⟩, .inl ⟨dL_chord_19, rfl⟩, by decide, fun G h Q q => s_iconst 2 dL_chord_21 (by decide) (s_ireturn dL_chord_22 rfl q)⟩
theorem mL_chord {v1 v2 v3 : Int32} (hi : Iv h) (k : WM G jX10_chord [.ref 0, .int v1, .int v2, .int v3] h (HpQ (some 1) (some 2) Q)) : WM G jL_chord [.ref 0, .int v1, .int v2, .int v3, .ref 116] h Q := by
  refine WM.bodyH (ls := [some (.ref 0), some (.int v1), some (.int v2), some (.int v3), some (.ref 116), none]) rfl (by decide +kernel) rfl (Nat.le_of_ble_eq_true rfl) rfl ?_
  refine s_aload dL_chord_0 rfl (s_iconst 0 dL_chord_2 (by decide) (s_aload_n dL_chord_3 rfl (s_iload_n dL_chord_4 rfl (s_iload_n dL_chord_5 rfl (s_iload_n dL_chord_6 rfl (s_callVH (As := [.int v1, .int v2, .int v3]) (Nat.le_of_ble_eq_true rfl) dL_chord_7 lvL_62 ⟨Nat.le_of_ble_eq_true rfl, Nat.le_of_ble_eq_true rfl⟩ (hi.sh rfl rfl) ⟨_, _, by decide, rfl⟩ rfl (Nat.le_of_ble_eq_true rfl) (k.mono ?_)))))))
  intro o g q
  match o, q with
  | .inl (some (.int r)), q => exact s_i2l dL_chord_10 (s_lastore dL_chord_11 (q.1.sh rfl rfl) (by unfold vp_in; decide) (s_goto 23 dL_chord_12 rfl (s_iconst 0 dL_chord_23 (by decide) (s_ireturn dL_chord_24 rfl q.2))))
  | .inr E, ⟨K, e, q⟩ =>
    rcases e with ⟨e1, e2⟩ | ⟨e1, e2⟩
    · cases e2; exact ⟨_, by rw [e1]; exact hdL_chord_0, q⟩
    · cases e2; exact ⟨_, by rw [e1]; exact hdL_chord_1, q⟩
theorem lhL_168 : kLH RL 168 jL_chord 5 := ⟨rfl, gT_in (List.mem_of_getElem? (i := 1195) (by decide +kernel)) rfl, w_93, ⟨by decide +kernel, by decide +kernel⟩, by decide +kernel, w_1193, w_1194⟩
theorem dL_cart_0 : decode cL_cart 0 = .ok (.aload_n 2, 1) := by decide +kernel
theorem dL_cart_1 : decode cL_cart 1 = .ok (.iconst 0, 1) := by decide +kernel
theorem dL_cart_2 : decode cL_cart 2 = .ok (.aload_n 0, 1) := by decide +kernel
theorem dL_cart_3 : decode cL_cart 3 = .ok (.iload_n 1, 1) := by decide +kernel
theorem dL_cart_4 : decode cL_cart 4 = .ok (.invokevirtual 65, 3) := by decide +kernel
theorem dL_cart_7 : decode cL_cart 7 = .ok (.i2l, 1) := by decide +kernel
theorem dL_cart_8 : decode cL_cart 8 = .ok (.lastore, 1) := by decide +kernel
theorem dL_cart_9 : decode cL_cart 9 = .ok (.goto 6, 3) := by decide +kernel
theorem dL_cart_12 : decode cL_cart 12 = .ok (.astore_n 3, 1) := by decide +kernel
theorem dL_cart_13 : decode cL_cart 13 = .ok (.iconst 1, 1) := by decide +kernel
theorem dL_cart_14 : decode cL_cart 14 = .ok (.ireturn, 1) := by decide +kernel
theorem dL_cart_15 : decode cL_cart 15 = .ok (.iconst 0, 1) := by decide +kernel
theorem dL_cart_16 : decode cL_cart 16 = .ok (.ireturn, 1) := by decide +kernel
theorem hdL_cart_0 : Hd jL_cart 4 eN 1 := ⟨[], ⟨0, 9, 12, 21⟩, [], 3, 1, rfl, by decide, by decide, w_908, .inl rfl, .inr ⟨3, rfl, dL_cart_12, rfl⟩, by decide, fun G h Q q => s_iconst 1 dL_cart_13 (by decide) (s_ireturn dL_cart_14 rfl q)⟩
theorem mL_cart {v1 : Int32} (hi : Iv h) (k : WM G jX10_cart [.ref 0, .int v1] h (HpQ (some 1) none Q)) : WM G jL_cart [.ref 0, .int v1, .ref 116] h Q := by
  refine WM.bodyH (ls := [some (.ref 0), some (.int v1), some (.ref 116), none]) rfl (by decide +kernel) rfl (Nat.le_of_ble_eq_true rfl) rfl ?_
  refine s_aload_n dL_cart_0 rfl (s_iconst 0 dL_cart_1 (by decide) (s_aload_n dL_cart_2 rfl (s_iload_n dL_cart_3 rfl (s_callVH (As := [.int v1]) (Nat.le_of_ble_eq_true rfl) dL_cart_4 lvL_65 ⟨Nat.le_of_ble_eq_true rfl, Nat.le_of_ble_eq_true rfl⟩ (hi.sh rfl rfl) ⟨_, _, by decide, rfl⟩ rfl (Nat.le_of_ble_eq_true rfl) (k.mono ?_)))))
  intro o g q
  match o, q with
  | .inl (some (.int r)), q => exact s_i2l dL_cart_7 (s_lastore dL_cart_8 (q.1.sh rfl rfl) (by unfold vp_in; decide) (s_goto 15 dL_cart_9 rfl (s_iconst 0 dL_cart_15 (by decide) (s_ireturn dL_cart_16 rfl q.2))))
  | .inr E, ⟨K, e, q⟩ =>
    rcases e with ⟨e1, e2⟩ | ⟨e1, e2⟩
    · cases e2; exact ⟨_, by rw [e1]; exact hdL_cart_0, q⟩
    · cases e2
theorem lhL_171 : kLH RL 171 jL_cart 3 := ⟨rfl, gT_in (List.mem_of_getElem? (i := 1202) (by decide +kernel)) rfl, w_93, ⟨by decide +kernel, by decide +kernel⟩, by decide +kernel, w_1200, w_1201⟩
theorem dL_factor_0 : decode cL_factor 0 = .ok (.aload_n 2, 1) := by decide +kernel
theorem dL_factor_1 : decode cL_factor 1 = .ok (.iconst 0, 1) := by decide +kernel
theorem dL_factor_2 : decode cL_factor 2 = .ok (.aload_n 0, 1) := by decide +kernel
theorem dL_factor_3 : decode cL_factor 3 = .ok (.iload_n 1, 1) := by decide +kernel
theorem dL_factor_4 : decode cL_factor 4 = .ok (.invokevirtual 68, 3) := by decide +kernel
theorem dL_factor_7 : decode cL_factor 7 = .ok (.i2l, 1) := by decide +kernel
theorem dL_factor_8 : decode cL_factor 8 = .ok (.lastore, 1) := by decide +kernel
theorem dL_factor_9 : decode cL_factor 9 = .ok (.goto 6, 3) := by decide +kernel
theorem dL_factor_12 : decode cL_factor 12 = .ok (.astore_n 3, 1) := by decide +kernel
theorem dL_factor_13 : decode cL_factor 13 = .ok (.iconst 1, 1) := by decide +kernel
theorem dL_factor_14 : decode cL_factor 14 = .ok (.ireturn, 1) := by decide +kernel
theorem dL_factor_15 : decode cL_factor 15 = .ok (.iconst 0, 1) := by decide +kernel
theorem dL_factor_16 : decode cL_factor 16 = .ok (.ireturn, 1) := by decide +kernel
theorem hdL_factor_0 : Hd jL_factor 4 eN 1 := ⟨[], ⟨0, 9, 12, 21⟩, [], 3, 1, rfl, by decide, by decide, w_908, .inl rfl, .inr ⟨3, rfl, dL_factor_12, rfl⟩, by decide, fun G h Q q => s_iconst 1 dL_factor_13 (by decide) (s_ireturn dL_factor_14 rfl q)⟩
theorem mL_factor {v1 : Int32} (hi : Iv h) (k : WM G jX10_factor [.ref 0, .int v1] h (HpQ (some 1) none Q)) : WM G jL_factor [.ref 0, .int v1, .ref 116] h Q := by
  refine WM.bodyH (ls := [some (.ref 0), some (.int v1), some (.ref 116), none]) rfl (by decide +kernel) rfl (Nat.le_of_ble_eq_true rfl) rfl ?_
  refine s_aload_n dL_factor_0 rfl (s_iconst 0 dL_factor_1 (by decide) (s_aload_n dL_factor_2 rfl (s_iload_n dL_factor_3 rfl (s_callVH (As := [.int v1]) (Nat.le_of_ble_eq_true rfl) dL_factor_4 lvL_68 ⟨Nat.le_of_ble_eq_true rfl, Nat.le_of_ble_eq_true rfl⟩ (hi.sh rfl rfl) ⟨_, _, by decide, rfl⟩ rfl (Nat.le_of_ble_eq_true rfl) (k.mono ?_)))))
  intro o g q
  match o, q with
  | .inl (some (.int r)), q => exact s_i2l dL_factor_7 (s_lastore dL_factor_8 (q.1.sh rfl rfl) (by unfold vp_in; decide) (s_goto 15 dL_factor_9 rfl (s_iconst 0 dL_factor_15 (by decide) (s_ireturn dL_factor_16 rfl q.2))))
  | .inr E, ⟨K, e, q⟩ =>
    rcases e with ⟨e1, e2⟩ | ⟨e1, e2⟩
    · cases e2; exact ⟨_, by rw [e1]; exact hdL_factor_0, q⟩
    · cases e2
theorem lhL_182 : kLH RL 182 jL_factor 3 := ⟨rfl, gT_in (List.mem_of_getElem? (i := 1230) (by decide +kernel)) rfl, w_93, ⟨by decide +kernel, by decide +kernel⟩, by decide +kernel, w_1228, w_1229⟩
theorem dL_laid_0 : decode cL_laid 0 = .ok (.aload 6, 2) := by decide +kernel
theorem dL_laid_2 : decode cL_laid 2 = .ok (.iconst 0, 1) := by decide +kernel
theorem dL_laid_3 : decode cL_laid 3 = .ok (.aload_n 0, 1) := by decide +kernel
theorem dL_laid_4 : decode cL_laid 4 = .ok (.iload_n 1, 1) := by decide +kernel
theorem dL_laid_5 : decode cL_laid 5 = .ok (.iload_n 2, 1) := by decide +kernel
theorem dL_laid_6 : decode cL_laid 6 = .ok (.iload_n 3, 1) := by decide +kernel
theorem dL_laid_7 : decode cL_laid 7 = .ok (.iload 4, 2) := by decide +kernel
theorem dL_laid_9 : decode cL_laid 9 = .ok (.iload 5, 2) := by decide +kernel
theorem dL_laid_11 : decode cL_laid 11 = .ok (.invokevirtual 71, 3) := by decide +kernel
theorem dL_laid_14 : decode cL_laid 14 = .ok (.i2l, 1) := by decide +kernel
theorem dL_laid_15 : decode cL_laid 15 = .ok (.lastore, 1) := by decide +kernel
theorem dL_laid_16 : decode cL_laid 16 = .ok (.goto 11, 3) := by decide +kernel
theorem dL_laid_19 : decode cL_laid 19 = .ok (.astore 7, 2) := by decide +kernel
theorem dL_laid_21 : decode cL_laid 21 = .ok (.iconst 1, 1) := by decide +kernel
theorem dL_laid_22 : decode cL_laid 22 = .ok (.ireturn, 1) := by decide +kernel
theorem dL_laid_23 : decode cL_laid 23 = .ok (.astore 7, 2) := by decide +kernel
theorem dL_laid_25 : decode cL_laid 25 = .ok (.iconst 2, 1) := by decide +kernel
theorem dL_laid_26 : decode cL_laid 26 = .ok (.ireturn, 1) := by decide +kernel
theorem dL_laid_27 : decode cL_laid 27 = .ok (.iconst 0, 1) := by decide +kernel
theorem dL_laid_28 : decode cL_laid 28 = .ok (.ireturn, 1) := by decide +kernel
theorem hdL_laid_0 : Hd jL_laid 11 eN 1 := ⟨[], ⟨0, 16, 19, 21⟩, [⟨0, 16, 23, 13⟩], 7, 2, rfl, by decide, by decide, w_908, .inl rfl, .inl ⟨dL_laid_19, rfl⟩, by decide, fun G h Q q => s_iconst 1 dL_laid_21 (by decide) (s_ireturn dL_laid_22 rfl q)⟩
theorem hdL_laid_1 : Hd jL_laid 11 eI 2 := ⟨[⟨0, 16, 19, 21⟩], ⟨0, 16, 23, 13⟩, [], 7, 2, rfl, by decide, by decide, w_611, .inr ⟨rfl, _, rfl, by decide, w_908⟩, .inl ⟨dL_laid_23, rfl⟩, by decide, fun G h Q q => s_iconst 2 dL_laid_25 (by decide) (s_ireturn dL_laid_26 rfl q)⟩
theorem mL_laid {v1 v2 v3 v4 v5 : Int32} (hi : Iv h) (k : WM G jX10_laid [.ref 0, .int v1, .int v2, .int v3, .int v4, .int v5] h (HpQ (some 1) (some 2) Q)) : WM G jL_laid [.ref 0, .int v1, .int v2, .int v3, .int v4, .int v5, .ref 116] h Q := by
  refine WM.bodyH (ls := [some (.ref 0), some (.int v1), some (.int v2), some (.int v3), some (.int v4), some (.int v5), some (.ref 116), none]) rfl (by decide +kernel) rfl (Nat.le_of_ble_eq_true rfl) rfl ?_
  refine s_aload dL_laid_0 rfl (s_iconst 0 dL_laid_2 (by decide) (s_aload_n dL_laid_3 rfl (s_iload_n dL_laid_4 rfl (s_iload_n dL_laid_5 rfl (s_iload_n dL_laid_6 rfl (s_iload dL_laid_7 rfl (s_iload dL_laid_9 rfl (s_callVH (As := [.int v1, .int v2, .int v3, .int v4, .int v5]) (Nat.le_of_ble_eq_true rfl) dL_laid_11 lvL_71 ⟨Nat.le_of_ble_eq_true rfl, Nat.le_of_ble_eq_true rfl⟩ (hi.sh rfl rfl) ⟨_, _, by decide, rfl⟩ rfl (Nat.le_of_ble_eq_true rfl) (k.mono ?_)))))))))
  intro o g q
  match o, q with
  | .inl (some (.int r)), q => exact s_i2l dL_laid_14 (s_lastore dL_laid_15 (q.1.sh rfl rfl) (by unfold vp_in; decide) (s_goto 27 dL_laid_16 rfl (s_iconst 0 dL_laid_27 (by decide) (s_ireturn dL_laid_28 rfl q.2))))
  | .inr E, ⟨K, e, q⟩ =>
    rcases e with ⟨e1, e2⟩ | ⟨e1, e2⟩
    · cases e2; exact ⟨_, by rw [e1]; exact hdL_laid_0, q⟩
    · cases e2; exact ⟨_, by rw [e1]; exact hdL_laid_1, q⟩
theorem lhL_185 : kLH RL 185 jL_laid 7 := ⟨rfl, gT_in (List.mem_of_getElem? (i := 1250) (by decide +kernel)) rfl, w_93, ⟨by decide +kernel, by decide +kernel⟩, by decide +kernel, w_1248, w_1249⟩
theorem dL_evening_0 : decode cL_evening 0 = .ok (.aload_n 2, 1) := by decide +kernel
theorem dL_evening_1 : decode cL_evening 1 = .ok (.iconst 0, 1) := by decide +kernel
theorem dL_evening_2 : decode cL_evening 2 = .ok (.aload_n 0, 1) := by decide +kernel
theorem dL_evening_3 : decode cL_evening 3 = .ok (.iload_n 1, 1) := by decide +kernel
theorem dL_evening_4 : decode cL_evening 4 = .ok (.invokevirtual 75, 3) := by decide +kernel
theorem dL_evening_7 : decode cL_evening 7 = .ok (.i2l, 1) := by decide +kernel
theorem dL_evening_8 : decode cL_evening 8 = .ok (.lastore, 1) := by decide +kernel
theorem dL_evening_9 : decode cL_evening 9 = .ok (.goto 6, 3) := by decide +kernel
theorem dL_evening_12 : decode cL_evening 12 = .ok (.astore_n 3, 1) := by decide +kernel
theorem dL_evening_13 : decode cL_evening 13 = .ok (.iconst 1, 1) := by decide +kernel
theorem dL_evening_14 : decode cL_evening 14 = .ok (.ireturn, 1) := by decide +kernel
theorem dL_evening_15 : decode cL_evening 15 = .ok (.iconst 0, 1) := by decide +kernel
theorem dL_evening_16 : decode cL_evening 16 = .ok (.ireturn, 1) := by decide +kernel
theorem hdL_evening_0 : Hd jL_evening 4 eI 1 := ⟨[], ⟨0, 9, 12, 13⟩, [], 3, 1, rfl, by decide, by decide, w_611, .inl rfl, .inr ⟨3, rfl, dL_evening_12, rfl⟩, by decide, fun G h Q q => s_iconst 1 dL_evening_13 (by decide) (s_ireturn dL_evening_14 rfl q)⟩
theorem mL_evening {v1 : Int32} (hi : Iv h) (k : WM G jX10_evening [.ref 0, .int v1] h (HpQ none (some 1) Q)) : WM G jL_evening [.ref 0, .int v1, .ref 116] h Q := by
  refine WM.bodyH (ls := [some (.ref 0), some (.int v1), some (.ref 116), none]) rfl (by decide +kernel) rfl (Nat.le_of_ble_eq_true rfl) rfl ?_
  refine s_aload_n dL_evening_0 rfl (s_iconst 0 dL_evening_1 (by decide) (s_aload_n dL_evening_2 rfl (s_iload_n dL_evening_3 rfl (s_callVH (As := [.int v1]) (Nat.le_of_ble_eq_true rfl) dL_evening_4 lvL_75 ⟨Nat.le_of_ble_eq_true rfl, Nat.le_of_ble_eq_true rfl⟩ (hi.sh rfl rfl) ⟨_, _, by decide, rfl⟩ rfl (Nat.le_of_ble_eq_true rfl) (k.mono ?_)))))
  intro o g q
  match o, q with
  | .inl (some (.int r)), q => exact s_i2l dL_evening_7 (s_lastore dL_evening_8 (q.1.sh rfl rfl) (by unfold vp_in; decide) (s_goto 15 dL_evening_9 rfl (s_iconst 0 dL_evening_15 (by decide) (s_ireturn dL_evening_16 rfl q.2))))
  | .inr E, ⟨K, e, q⟩ =>
    rcases e with ⟨e1, e2⟩ | ⟨e1, e2⟩
    · cases e2
    · cases e2; exact ⟨_, by rw [e1]; exact hdL_evening_0, q⟩
theorem lhL_189 : kLH RL 189 jL_evening 3 := ⟨rfl, gT_in (List.mem_of_getElem? (i := 1261) (by decide +kernel)) rfl, w_93, ⟨by decide +kernel, by decide +kernel⟩, by decide +kernel, w_1259, w_1260⟩
theorem dL_drawing_0 : decode cL_drawing 0 = .ok (.aload_n 2, 1) := by decide +kernel
theorem dL_drawing_1 : decode cL_drawing 1 = .ok (.iconst 0, 1) := by decide +kernel
theorem dL_drawing_2 : decode cL_drawing 2 = .ok (.aload_n 0, 1) := by decide +kernel
theorem dL_drawing_3 : decode cL_drawing 3 = .ok (.iload_n 1, 1) := by decide +kernel
theorem dL_drawing_4 : decode cL_drawing 4 = .ok (.invokevirtual 78, 3) := by decide +kernel
theorem dL_drawing_7 : decode cL_drawing 7 = .ok (.i2l, 1) := by decide +kernel
theorem dL_drawing_8 : decode cL_drawing 8 = .ok (.lastore, 1) := by decide +kernel
theorem dL_drawing_9 : decode cL_drawing 9 = .ok (.goto 6, 3) := by decide +kernel
theorem dL_drawing_12 : decode cL_drawing 12 = .ok (.astore_n 3, 1) := by decide +kernel
theorem dL_drawing_13 : decode cL_drawing 13 = .ok (.iconst 1, 1) := by decide +kernel
theorem dL_drawing_14 : decode cL_drawing 14 = .ok (.ireturn, 1) := by decide +kernel
theorem dL_drawing_15 : decode cL_drawing 15 = .ok (.iconst 0, 1) := by decide +kernel
theorem dL_drawing_16 : decode cL_drawing 16 = .ok (.ireturn, 1) := by decide +kernel
theorem hdL_drawing_0 : Hd jL_drawing 4 eN 1 := ⟨[], ⟨0, 9, 12, 21⟩, [], 3, 1, rfl, by decide, by decide, w_908, .inl rfl, .inr ⟨3, rfl, dL_drawing_12, rfl⟩, by decide, fun G h Q q => s_iconst 1 dL_drawing_13 (by decide) (s_ireturn dL_drawing_14 rfl q)⟩
theorem mL_drawing {v1 : Int32} (hi : Iv h) (k : WM G jX10_drawing [.ref 0, .int v1] h (HpQ (some 1) none Q)) : WM G jL_drawing [.ref 0, .int v1, .ref 116] h Q := by
  refine WM.bodyH (ls := [some (.ref 0), some (.int v1), some (.ref 116), none]) rfl (by decide +kernel) rfl (Nat.le_of_ble_eq_true rfl) rfl ?_
  refine s_aload_n dL_drawing_0 rfl (s_iconst 0 dL_drawing_1 (by decide) (s_aload_n dL_drawing_2 rfl (s_iload_n dL_drawing_3 rfl (s_callVH (As := [.int v1]) (Nat.le_of_ble_eq_true rfl) dL_drawing_4 lvL_78 ⟨Nat.le_of_ble_eq_true rfl, Nat.le_of_ble_eq_true rfl⟩ (hi.sh rfl rfl) ⟨_, _, by decide, rfl⟩ rfl (Nat.le_of_ble_eq_true rfl) (k.mono ?_)))))
  intro o g q
  match o, q with
  | .inl (some (.int r)), q => exact s_i2l dL_drawing_7 (s_lastore dL_drawing_8 (q.1.sh rfl rfl) (by unfold vp_in; decide) (s_goto 15 dL_drawing_9 rfl (s_iconst 0 dL_drawing_15 (by decide) (s_ireturn dL_drawing_16 rfl q.2))))
  | .inr E, ⟨K, e, q⟩ =>
    rcases e with ⟨e1, e2⟩ | ⟨e1, e2⟩
    · cases e2; exact ⟨_, by rw [e1]; exact hdL_drawing_0, q⟩
    · cases e2
theorem lhL_192 : kLH RL 192 jL_drawing 3 := ⟨rfl, gT_in (List.mem_of_getElem? (i := 1315) (by decide +kernel)) rfl, w_93, ⟨by decide +kernel, by decide +kernel⟩, by decide +kernel, w_1313, w_1314⟩
end HELPERS
