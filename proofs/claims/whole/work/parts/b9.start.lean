section START
variable {G : GX} {h : mH}
theorem iv_0 {o k : Nat} (h1 : ¬ ((o = 5 ∨ o = 15 ∨ o = 25 ∨ o = 58 ∨ o = 85) ∧ k < 4)) (h2 : ¬ ((o = 1 ∧ k = 3) ∨ (o = 55 ∧ k = 8) ∨ (o = 80 ∧ k = 2) ∨ (o = 83 ∧ (k = 11 ∨ k = 40)))) : iv o k = 0 := by
  unfold iv
  rw [if_neg h1, if_neg h2]
theorem iv_2 {o k : Nat} (h1 : (o = 5 ∨ o = 15 ∨ o = 25 ∨ o = 58 ∨ o = 85) ∧ k < 4) : iv o k = 2 := by
  unfold iv
  rw [if_pos h1]
theorem fdZ_0 : ∀ i, fdN 0 i 0 = 0
  | 0 => rfl
  | i + 1 => by
    unfold fdN
    rw [fdZ_0 i]
    decide
/-- all is made: class and model stand alike -/
theorem Re_0 (sh : h.1 = kdL) (U : ∀ o k, o < 116 → gI h o k = iv o k) (rf : ∀ o k d, o < 116 → rOff (kd o).1 k = some d → gR h o k = .ref (o + d)) (r7 : gR h 0 7 = .ref 43) (r8 : gR h 0 8 = .ref 49) : Re 512 h := by
  have hi : Iv h := by
    refine ⟨fun o c n hk hc => ?_, fun o c n k d hk hr => ?_⟩
    · have := kd_lt hk hc
      rw [sh, kd_at this, hk]
    · rcases Nat.lt_or_ge o 116 with q | q
      · exact rf o k d q (by rw [hk]; exact hr)
      · exfalso
        have c11 := (rOff_b hr).1
        rcases Nat.lt_or_ge o 117 with q2 | q2
        · have : o = 116 := by omega
          subst this
          have e : kd 116 = (102, 1) := rfl
          rw [e] at hk
          cases hk
          omega
        · unfold kd at hk
          rw [List.getD_eq_getElem?_getD, List.getElem?_eq_none (show kdL.length ≤ o from q2)] at hk
          cases hk
          omega
  have Z : ∀ o k, o < 116 → ¬ ((o = 5 ∨ o = 15 ∨ o = 25 ∨ o = 58 ∨ o = 85) ∧ k < 4) → ¬ ((o = 1 ∧ k = 3) ∨ (o = 55 ∧ k = 8) ∨ (o = 80 ∧ k = 2) ∨ (o = 83 ∧ (k = 11 ∨ k = 40))) → gI h o k = 0 := fun o k a b c => (U o k a).trans (iv_0 b c)
  have z0 : (0 : Int32) = iI ((0 : Nat) : Int) := n_0
  have z1 : (-1 : Int32) = iI (-1) := by decide
  have t0 : (0 : Int32).toInt = 0 := rfl
  have t2 : (2 : Int32).toInt = 2 := rfl
  have m1 : gI h 1 3 = -1 := U 1 3 (by omega)
  have m55 : gI h 55 8 = -1 := U 55 8 (by omega)
  have m80 : gI h 80 2 = -1 := U 80 2 (by omega)
  have m83 : gI h 83 11 = -1 := U 83 11 (by omega)
  have m40 : gI h 83 40 = -1 := U 83 40 (by omega)
  have m16 : gI h 0 16 = 0 := Z 0 16 (by omega) (by omega) (by omega)
  have c35 : gI h 3 5 = 0 := Z 3 5 (by omega) (by omega) (by omega)
  have fd : ∀ r, r = 3 ∨ r = 13 ∨ r = 56 → FdOk h r := fun r hr p hp => by
    refine ⟨0, 0, ?_, ?_, by omega, by omega, by omega, by omega, fun i hi => ?_⟩
    · rw [Z (r + 9) p (by omega) (by omega) (by omega)]; decide
    · rw [Z (r + 8) p (by omega) (by omega) (by omega)]; decide
    · rw [Z (r + 7) _ (by omega) (by omega) (by omega), fdZ_0]; decide
  have sl0 : sl h ≤ 17000 := by
    unfold sl
    rw [sh]
    exact slk_b 117 (by decide)
  refine ⟨⟨hi, by rw [sh]; decide, by show sl h + 6 * 512 ≤ 21356; omega⟩, ⟨fun p hp => ?_, ⟨?_, fun i hi => ?_⟩, ?_, ?_, fun k hk => ⟨?_, ?_, ?_⟩, fun k hk => ?_, fun i hi => ?_⟩, ⟨⟨0, 0, 0, ?_, ?_, ?_, by omega, fun i hi => by omega, ⟨by omega, fun i hi => by omega⟩, ⟨by omega, fun i hi => by omega⟩⟩, ⟨?_, ?_, ?_⟩, fun k hk => ?_, fun k hk => ?_, fun k hk => ?_⟩, fun k hk => ?_, ⟨0, fun _ => 0, by omega, ?_, ?_, fun i hi => ⟨?_, by show (-128 : Int) ≤ 0; decide, by show (0 : Int) ≤ 127; decide⟩, fun i hi => ⟨?_, by show (-128 : Int) ≤ 0; decide, by show (0 : Int) ≤ 127; decide⟩⟩, ?_, .inl ⟨?_, m40⟩, ⟨?_, .inl ?_⟩, ⟨s0P, 43, 49, s0_WF, s0_LN, r7, r8, .inl ⟨rfl, rfl⟩, ⟨?_, fun a i ha hi => absurd hi (by show ¬ i < 0; omega)⟩, ⟨fun i j hi => absurd hi (by show ¬ i < 0; omega), ?_⟩, fun z => ?_⟩, ⟨fd 3 (by omega), fd 13 (by omega), fd 56 (by omega)⟩, fun n _ _ z => ?_, ⟨0, -1, -1, ?_, by omega, ?_, by omega, by omega, ?_, by omega, by omega⟩⟩
  · unfold PnR rg
    rw [Z (3 + 1) p (by omega) (by omega) (by omega), (U (3 + 2) p (by omega)).trans (iv_2 ⟨by omega, hp⟩), Z (3 + 3) p (by omega) (by omega) (by omega), Z (3 + 4) _ (by omega) (by omega) (by omega), Z (3 + 4) _ (by omega) (by omega) (by omega), Z (3 + 4) _ (by omega) (by omega) (by omega), t0, t2]
    omega
  · unfold rg
    rw [c35, t0]
    omega
  · rw [c35] at hi
    exact absurd hi (by rw [t0]; omega)
  · rw [Z 83 1 (by omega) (by omega) (by omega), Z 3 4 (by omega) (by omega) (by omega)]
  · rw [Z 83 2 (by omega) (by omega) (by omega), c35]
  · rw [Z 84 k (by omega) (by omega) (by omega), Z 4 k (by omega) (by omega) (by omega)]
  · rw [(U 85 k (by omega)).trans (iv_2 ⟨by omega, hk⟩), (U 5 k (by omega)).trans (iv_2 ⟨by omega, hk⟩)]
  · rw [Z 86 k (by omega) (by omega) (by omega), Z 6 k (by omega) (by omega) (by omega)]
  · rw [Z 87 k (by omega) (by omega) (by omega), Z 7 k (by omega) (by omega) (by omega)]
  · rw [c35] at hi
    exact absurd hi (by rw [t0]; omega)
  · rw [Z 33 1 (by omega) (by omega) (by omega)]; exact z0
  · rw [Z 33 3 (by omega) (by omega) (by omega)]; exact z0
  · rw [Z 33 5 (by omega) (by omega) (by omega)]; exact z0
  · rw [Z 83 30 (by omega) (by omega) (by omega), Z 33 1 (by omega) (by omega) (by omega)]
  · rw [Z 83 33 (by omega) (by omega) (by omega), Z 33 3 (by omega) (by omega) (by omega)]
  · rw [Z 83 36 (by omega) (by omega) (by omega), Z 33 5 (by omega) (by omega) (by omega)]
  · rw [Z 97 k (by omega) (by omega) (by omega), Z 35 k (by omega) (by omega) (by omega)]
  · rw [Z 99 k (by omega) (by omega) (by omega), Z 36 k (by omega) (by omega) (by omega)]
  · rw [Z 101 k (by omega) (by omega) (by omega), Z 37 k (by omega) (by omega) (by omega)]
  · rw [Z 90 k (by omega) (by omega) (by omega), Z 82 k (by omega) (by omega) (by omega)]
  · rw [Z 1 1 (by omega) (by omega) (by omega)]; exact z0
  · rw [Z 83 9 (by omega) (by omega) (by omega)]; exact z0
  · rw [Z 2 i (by omega) (by omega) (by omega)]
    exact show (0 : Int32) = iI 0 from by decide
  · rw [Z 89 i (by omega) (by omega) (by omega)]
    exact show (0 : Int32) = iI (0 % 256) from by decide
  · show gI h 83 11 = gI h 1 3
    rw [m83, m1]
  · exact Z 75 1 (by omega) (by omega) (by omega)
  · rw [Z 83 55 (by omega) (by omega) (by omega), Z 0 6 (by omega) (by omega) (by omega)]
  · exact Z 0 6 (by omega) (by omega) (by omega)
  · rw [Z 43 4 (by omega) (by omega) (by omega)]; exact z0
  · exact Z 104 0 (by omega) (by omega) (by omega)
  · rw [m55, m16] at z
    exact absurd z (by decide)
  · rw [m80, m16] at z
    exact absurd z (by decide)
  · rw [m16]; exact z0
  · rw [m55]; exact z1
  · rw [m80]; exact z1
def hE : mH := ([], fun _ _ => 0, fun _ _ => 0, fun _ _ => .null)
theorem law_all (hN : gN G ≤ 3072) : Vw G jLw 0 [some (.float 1000), none, none, none, none, none, none] [] hE QL := by
  refine s_new dL_law_0 cl9 (by decide) w_118 w_119 w_94 (by decide) (by decide) (s_dupr dL_law_3 (s_callI (As := []) dL_law_4 rfl liL_81 w_120 w_121 rfl rfl ⟨Nat.le_of_ble_eq_true rfl, Nat.le_of_ble_eq_true rfl⟩ rfl (Nat.le_of_ble_eq_true rfl) (n_X10_0 rfl (fun _ => rfl) (fun h1 D1 r7 r8 => ?_))))
  obtain ⟨a1, b1, c1, d1⟩ := D1
  have l1 : h1.1.length = 83 := by rw [a1, tk_len (by decide)]
  have s1 : sl h1 ≤ 17000 := by
    unfold sl
    rw [a1]
    exact slk_b 83 (by decide)
  show Vw G jLw 7 [some (.float 1000), none, none, none, none, none, none] [.ref 0] h1 QL
  refine s_astore_n dL_law_7 (Nat.le_of_ble_eq_true rfl) rfl ?_
  refine s_new dL_law_8 cl10 (by decide) w_1321 w_1322 w_105 (by rw [l1]; decide) (by show sl h1 + 61 ≤ 21356; omega) ?_
  rw [l1]
  have hb2 : (aN h1 10 61).1 = kdL.take 84 := by
    show h1.1 ++ [(10, 61)] = _
    rw [a1, tk_s (by decide)]
    rfl
  have hz2 : ∀ k, gI (aN h1 10 61) 83 k = 0 := fun k => by
    have := gI_aN0 (h := h1) (c := 10) (n := 61) (k := k)
    rw [l1] at this
    exact this
  refine s_dupr dL_law_11 (s_callI (As := []) dL_law_12 rfl liL_84 w_1323 w_1324 rfl rfl ⟨Nat.le_of_ble_eq_true rfl, Nat.le_of_ble_eq_true rfl⟩ rfl (Nat.le_of_ble_eq_true rfl) (n_X11_83 hb2 hz2 (fun h2 D2 => ?_)))
  obtain ⟨a2, b2, c2, d2⟩ := D2
  have l2 : h2.1.length = 116 := by rw [a2, tk_len (by decide)]
  have s2 : sl h2 ≤ 17000 := by
    unfold sl
    rw [a2]
    exact slk_b 116 (by decide)
  refine (show Vw G jLw 15 [some (.float 1000), some (.ref 0), none, none, none, none, none] [.ref 83] h2 QL from s_astore_n dL_law_15 (Nat.le_of_ble_eq_true rfl) rfl (s_iconst 1 dL_law_16 (by decide) (s_newarray (t0 := 0) (N := 1) (c := 102) dL_law_17 (.inr (.inr ⟨rfl, rfl⟩)) w_1858 (by decide) (by decide) (by decide) (by rw [l2]; decide) (by show sl h2 + 1 ≤ 21356; omega) ?_)))
  rw [l2]
  refine s_astore_n dL_law_19 (Nat.le_of_ble_eq_true rfl) rfl (s_iconst 0 dL_law_20 (by decide) (s_istore dL_law_21 (Nat.le_of_ble_eq_true rfl) rfl ?_))
  have old : ∀ o k, o < 83 → gI h2 o k = gI h1 o k ∧ gR h2 o k = gR h1 o k := fun o k ho => by
    rw [(b2 o k ho).1, (b2 o k ho).2, gI_aN (by omega), gR_aN (by omega)]
    exact ⟨rfl, rfl⟩
  have R : Re 512 (aN h2 102 1) := by
    refine Re_0 ?_ (fun o k ho => ?_) (fun o k d ho hr => ?_) ?_ ?_
    · show h2.1 ++ [(102, 1)] = kdL
      rw [a2]
      rfl
    · rw [gI_aN (by omega)]
      rcases Nat.lt_or_ge o 83 with q | q
      · rw [(old o k q).1]
        exact c1 o k (by omega) (by omega)
      · exact c2 o k q (by omega)
    · rw [gR_aN (by omega)]
      rcases Nat.lt_or_ge o 83 with q | q
      · rw [(old o k q).2]
        exact d1 o k d (by omega) (by omega) hr
      · exact d2 o k d q (by omega) hr
    · rw [gR_aN (by omega), (old 0 7 (by omega)).2]; exact r7
    · rw [gR_aN (by omega), (old 0 8 (by omega)).2]; exact r8
  show Vw G jLw 23 [some (.float 1000), some (.ref 0), some (.ref 83), some (.ref 116), some (.int 0), none, none] [] (aN h2 102 1) QL
  rw [n_0]
  exact law_loop hN 512 0 _ (by omega) (by omega) R
end START
