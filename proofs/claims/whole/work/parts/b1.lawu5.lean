section LAWU5
variable {G : GX} {h h1 : mH} {n : Nat} {NX : mH → Prop}
theorem P1_new {g : mH} {s : SF} (r : SR s) (f : FC3 s g) (m : FN3 s g) : P1 g := by
  obtain ⟨r1, r2, r3, r4⟩ := r
  obtain ⟨f1, f2, f3, f4, f5⟩ := f
  obtain ⟨m1, m2, m3, m4, m5⟩ := m
  have tI : ∀ {x : Int}, -1000 ≤ x → x ≤ 1000 → (iI x).toInt = x := fun h1 h2 => iI_toInt ⟨by omega, by omega⟩
  have e5 : (gI g 3 5).toInt.toNat = s.2.1 := by rw [f2, tI (by omega) (by omega)]; omega
  refine ⟨fun p hp => ?_, ⟨?_, fun i hi => ?_⟩, by rw [m1, f1], by rw [m2, f2], fun k hk => ⟨?_, ?_, ?_⟩, fun k hk => by rw [m4 k hk, f4 k hk], fun i hi => ?_⟩
  · obtain ⟨a1, a2, a3, a4, a5, a6⟩ := r3 p hp
    have k1 : gI g 4 p = iI (s.2.2.2 0 p) := f3 0 p (by omega) hp
    have k2 : gI g 5 p = iI (s.2.2.2 1 p) := f3 1 p (by omega) hp
    have k3 : gI g 6 p = iI (s.2.2.2 2 p) := f3 2 p (by omega) hp
    unfold PnR rg
    show (_ ≤ (gI g 4 p).toInt ∧ (gI g 4 p).toInt ≤ _) ∧ (_ ≤ (gI g 5 p).toInt ∧ (gI g 5 p).toInt ≤ _) ∧ (_ ≤ (gI g 6 p).toInt ∧ (gI g 6 p).toInt ≤ _) ∧ (_ ≤ (gI g 7 (0 + p)).toInt ∧ (gI g 7 (0 + p)).toInt ≤ _) ∧ (_ ≤ (gI g 7 (0 + (4 + p))).toInt ∧ (gI g 7 (0 + (4 + p))).toInt ≤ _) ∧ (_ ≤ (gI g 7 (0 + (8 + p))).toInt ∧ (gI g 7 (0 + (8 + p))).toInt ≤ _)
    rw [Nat.zero_add, Nat.zero_add, Nat.zero_add, k1, k2, k3, f4 p (by omega), f4 (4 + p) (by omega), f4 (8 + p) (by omega)]
    rw [tI (by omega) (by omega), tI (by omega) (by omega), tI (by omega) (by omega), tI (by omega) (by omega), tI (by omega) (by omega), tI (by omega) (by omega)]
    exact ⟨a1, a2, a3, a4, a5, a6⟩
  · unfold rg
    rw [f2, tI (by omega) (by omega)]
    omega
  · rw [e5] at hi
    obtain ⟨a1, a2⟩ := r4 i hi
    obtain ⟨b1, b2⟩ := f5 i hi
    refine ⟨?_, fun a ha => ?_⟩
    · unfold rg
      show _ ≤ (gI g 8 i).toInt ∧ (gI g 8 i).toInt ≤ _
      rw [b1, tI (by omega) (by omega)]
      exact a1
    · have := a2 a ha
      unfold rg
      show _ ≤ (gI g 9 (2 * i + a)).toInt ∧ (gI g 9 (2 * i + a)).toInt ≤ _
      rw [b2 a ha, tI (by omega) (by omega)]
      exact this
  · exact (m3 0 k (by omega) hk).trans (f3 0 k (by omega) hk).symm
  · exact (m3 1 k (by omega) hk).trans (f3 1 k (by omega) hk).symm
  · exact (m3 2 k (by omega) hk).trans (f3 2 k (by omega) hk).symm
  · rw [e5] at hi
    obtain ⟨b1, b2⟩ := f5 i hi
    obtain ⟨c1, c2⟩ := m5 i hi
    exact ⟨by rw [c1, b1], fun a ha => by rw [c2 a ha, b2 a ha]⟩
def swA (r o k : Nat) : Prop := o = 1 ∨ (13 ≤ o ∧ o ≤ 19) ∨ (3 ≤ o ∧ o ≤ 9) ∨ (o = 33 ∧ (k = 1 ∨ k = 3 ∨ k = 5)) ∨ (o = r ∧ k = 4) ∨ (o = 75 ∧ (k = 1 ∨ k = 2)) ∨ (o = 0 ∧ (k = 6 ∨ k = 16))
def swB (o k : Nat) : Prop := (o = 83 ∧ (k ≤ 2 ∨ (9 ≤ k ∧ k ≤ 23) ∨ k = 30 ∨ k = 33 ∨ k = 36 ∨ k = 40 ∨ k = 55)) ∨ (84 ≤ o ∧ o ≤ 88) ∨ (91 ≤ o ∧ o ≤ 95) ∨ (o = 104 ∧ k = 0)
theorem swA_of {r o k : Nat} (y : swS r o k = true) : swA r o k := by
  unfold swS mr at y
  simp at y
  unfold swA
  omega
theorem swB_of {o k : Nat} (y : smT o k = true) : swB o k := by
  unfold smT at y
  simp at y
  unfold swB
  omega
theorem c_swings {v : Int32} (hR : Re (n + 1) h) (nx : ∀ g, Re n g → NX g) : WM G jX10_swings [.ref 0, .int v] h (LB G jX11_swings [.ref 83, .int v] none (some 1) NX) := by
  obtain ⟨q13, q1, q2, q3, q4, q5, q6, q7, q8, q9, q11, q12⟩ := id hR
  obtain ⟨l, z, l4, e1, e2, zc, zm⟩ := id q4
  obtain ⟨sc, r, r', w1, w2, w3, w4, w5, w6, w7, w8⟩ := id q8
  have zmf : ∀ {g : mH}, (∀ k, gI g 89 k = gI h 89 k) → ZM z g := fun e i hi => by rw [e]; exact zm i hi
  refine mX10_swings q13.1 zc e1 l4 w3 (by omega) (fun c => th_I hR rfl (fun h1 X => ?_)) (fun g1 s c es C1 F1 a11 a13 a33 aA a75 a06 a16 => vl (C1.iv q13.1) ?_) (fun g1 w p c es wn C1 a11 a13 a82 a16 => vl (C1.iv q13.1) ?_) (fun w p es => swR_w _ _ _ w p es)
  · refine mX11_swings (X.iv q13.1) (zmf (fun k => X.2.2 89 k (by omega) (fun y => y))) (by rw [X.2.2 83 9 (by omega) (fun y => y)]; exact e2) l4 (fun _ => thr_m (by decide) hR nx X) (fun _ _ d => absurd d c) (fun _ _ _ d => absurd d c)
  · have X := ((Fm.rf (S := swA r) (h := h)).trC C1 (fun o k y => swA_of y)).pJ 116 0 (iI ((0 : Nat) : Int)).toInt64
    have XN : ∀ o k, 83 ≤ o → o < 117 → gI (pJ g1 116 0 (iI ((0 : Nat) : Int)).toInt64) o k = gI h o k := fun o k y1 y2 => X.2.2 o k y2 (by unfold swA; omega)
    refine mX11_swings (X.iv q13.1) (zmf (fun k => XN 89 k (by omega) (by omega))) (by rw [XN 83 9 (by omega) (by omega)]; exact e2) l4 (fun d => absurd c d) (fun g2 s2 _ es2 C2 F2 b0 b9 b11 b30 b104 b40 b55 => ?_) (fun g2 w p _ es2 => by rw [es] at es2; cases es2)
    rw [es] at es2
    cases es2
    have sr : SR s := swR_r 401 s0F s _ ((rn_b (p := cB) (z := z) (n := v.toInt.toNat) v.toInt.toNat 0 (by omega)).2.1) s0_SR es
    have U : ∀ o k, o ≤ 82 → gI g2 o k = gI g1 o k := fun o k ho => by
      rw [C2.2.2.2 o k (by unfold smT; simp; omega)]
      rfl
    have Y : Fm (fun o k => swA r o k ∨ swB o k) h g2 := (X.wk (fun _ _ y => .inl y)).trJ C2 (fun o k y => .inr (swB_of y))
    have N : ∀ o k, o < 117 → ¬ swA r o k → ¬ swB o k → gI g2 o k = gI h o k := fun o k y1 y2 y3 => Y.2.2 o k y1 (fun y => y.elim y2 y3)
    have F3 : FC3 s g2 := by
      obtain ⟨x1, x2, x3, x4, x5⟩ := F1
      exact ⟨by rw [U 3 4 (by omega)]; exact x1, by rw [U 3 5 (by omega)]; exact x2, fun a i ha hi => by rw [U _ _ (by omega)]; exact x3 a i ha hi, fun i hi => by rw [U 7 i (by omega)]; exact x4 i hi, fun i hi => ⟨by rw [U 8 i (by omega)]; exact (x5 i hi).1, fun ax hx => by rw [U 9 _ (by omega)]; exact (x5 i hi).2 ax hx⟩⟩
    have g16 : gI g2 0 16 = gI h 0 16 + 1 := by rw [U 0 16 (by omega)]; exact a16
    obtain ⟨p12, n1, n2⟩ := P12_s (fun o k ho => N o k (by omega) (by unfold swA; omega) (by unfold swB; omega)) g16 q12
    obtain ⟨_, ⟨d1, d2, d3⟩, c3, c4, c5⟩ := q2
    refine ok0 (Y.iv q13.1) b0 (by show g2.2.2.1 116 0 = _; rw [C2.2.2.1 116 (by omega)]; rfl) (nx _ ⟨P13_c Y q13, P1_new sr F3 F2, ⟨⟨0, 0, 0, ?_, ?_, ?_, by omega, fun i hi => by omega, ⟨by omega, fun i hi => by omega⟩, ⟨by omega, fun i hi => by omega⟩⟩, ⟨?_, ?_, ?_⟩, fun k hk => ?_, fun k hk => ?_, fun k hk => ?_⟩, P3_c (fun o k ho => N o k (by omega) (by unfold swA; omega) (by unfold swB; omega)) q3, ⟨0, z, by omega, ?_, ?_, fun i hi => ?_, fun i hi => ?_⟩, ?_, .inl ⟨?_, b40⟩, ⟨?_, .inl ?_⟩, ⟨s0P, r, r', s0_WF, s0_LN, by rw [Y.2.1 0 7 (by omega)]; exact w3, by rw [Y.2.1 0 8 (by omega)]; exact w4, w5, ⟨?_, fun a i ha hi => absurd hi (by show ¬ i < 0; omega)⟩, ⟨fun i j hi => absurd hi (by show ¬ i < 0; omega), b104⟩, fun y => absurd y n1⟩, P9_c (fun o k ho => N o k (by omega) (by unfold swA; omega) (by unfold swB; omega)) q9, P11_n n2, p12⟩)
    · rw [U 33 1 (by omega), a33.1]; exact n_0
    · rw [U 33 3 (by omega), a33.2.1]; exact n_0
    · rw [U 33 5 (by omega), a33.2.2]; exact n_0
    · rw [b30.1, U 33 1 (by omega), a33.1]
    · rw [b30.2.1, U 33 3 (by omega), a33.2.1]
    · rw [b30.2.2, U 33 5 (by omega), a33.2.2]
    · rw [N 97 k (by omega) (by unfold swA; omega) (by unfold swB; omega), N 35 k (by omega) (by unfold swA; omega) (by unfold swB; omega)]; exact c3 k hk
    · rw [N 99 k (by omega) (by unfold swA; omega) (by unfold swB; omega), N 36 k (by omega) (by unfold swA; omega) (by unfold swB; omega)]; exact c4 k hk
    · rw [N 101 k (by omega) (by unfold swA; omega) (by unfold swB; omega), N 37 k (by omega) (by unfold swA; omega) (by unfold swB; omega)]; exact c5 k hk
    · rw [U 1 1 (by omega), a11]; exact n_0
    · rw [b9]; exact n_0
    · rw [N 2 i (by omega) (by unfold swA; omega) (by unfold swB; omega)]; exact zc i hi
    · rw [N 89 i (by omega) (by unfold swA; omega) (by unfold swB; omega)]; exact zm i hi
    · show gI g2 83 11 = gI g2 1 3
      rw [b11, U 1 3 (by omega), a13]
    · rw [U 75 1 (by omega)]; exact a75
    · rw [b55, U 0 6 (by omega), a06]
    · rw [U 0 6 (by omega)]; exact a06
    · rw [U r 4 (by omega), aA]; exact n_0
  · have X := ((Fm.rf (S := fun o k => o = 1 ∨ (13 ≤ o ∧ o ≤ 19) ∨ (o = 82 ∧ k = 0) ∨ (o = 0 ∧ k = 16)) (h := h)).trC C1 (fun o k y => by unfold swG mr at y; simp at y; omega)).pJ 116 0 (iI (w : Nat)).toInt64
    refine mX11_swings (X.iv q13.1) (zmf (fun k => X.2.2 89 k (by omega) (by omega))) (by rw [X.2.2 83 9 (by omega) (by omega)]; exact e2) l4 (fun d => absurd c d) (fun g2 s2 _ es2 => by rw [es] at es2; cases es2) (fun g2 w2 p2 _ es2 C2 b0 b9 b11 b90 => ?_)
    rw [es] at es2
    cases es2
    have U : ∀ o k, o ≤ 82 → gI g2 o k = gI g1 o k := fun o k ho => by
      rw [C2.2.2.2 o k (by unfold smF smI; simp; omega)]
      rfl
    have Y : Fm (fun o k => o = 1 ∨ (13 ≤ o ∧ o ≤ 19) ∨ (o = 82 ∧ k = 0) ∨ (o = 0 ∧ k = 16) ∨ (o = 83 ∧ (k = 0 ∨ (9 ≤ k ∧ k ≤ 23))) ∨ (91 ≤ o ∧ o ≤ 95) ∨ (o = 90 ∧ k = 0) ∨ o = 116) h g2 := (X.wk (fun _ _ y => by omega)).trJ C2 (fun o k y => by unfold smF smI at y; simp at y; omega)
    have g16 : gI g2 0 16 = gI h 0 16 + 1 := by rw [U 0 16 (by omega)]; exact a16
    obtain ⟨p12, n1, n2⟩ := P12_s (fun o k ho => Y.2.2 o k (by omega) (by omega)) g16 q12
    refine ok0 (Y.iv q13.1) b0 (by show g2.2.2.1 116 0 = _; rw [C2.2.2.1 116 (by omega)]; rfl) (nx _ ⟨P13_c Y q13, P1_c (fun o k ho => Y.2.2 o k (by omega) (by omega)) q1, P2_c (fun o k ho => Y.2.2 o k (by omega) (by omega)) q2, fun k hk => ?_, ⟨0, z, by omega, ?_, ?_, fun i hi => ?_, fun i hi => ?_⟩, ?_, P6_c (fun o k ho => Y.2.2 o k (by omega) (by omega)) q6, P7_c (fun o k ho => Y.2.2 o k (by omega) (by omega)) q7, P8_n (fun o k ho => Y.2.2 o k (by omega) (by omega)) (fun k => Y.2.1 0 k (by omega)) n1 q8, P9_c (fun o k ho => Y.2.2 o k (by omega) (by omega)) q9, P11_n n2, p12⟩)
    · by_cases k0 : k = 0
      · subst k0
        rw [b90, U 82 0 (by omega), a82]
        show gI g1 90 0 + 1 = _
        rw [show gI g1 90 0 = gI h 90 0 from X.2.2 90 0 (by omega) (by omega), q3 0 (by omega)]
      · rw [Y.2.2 90 k (by omega) (by omega), Y.2.2 82 k (by omega) (by omega)]; exact q3 k hk
    · rw [U 1 1 (by omega), a11]; exact n_0
    · rw [b9]; exact n_0
    · rw [Y.2.2 2 i (by omega) (by omega)]; exact zc i hi
    · rw [Y.2.2 89 i (by omega) (by omega)]; exact zm i hi
    · show gI g2 83 11 = gI g2 1 3
      rw [b11, U 1 3 (by omega), a13]
end LAWU5
