section LAWU6
variable {G : GX} {h h1 : mH} {n : Nat} {NX : mH → Prop}
theorem c_score {v : Int32} (hR : Re (n + 1) h) (nx : ∀ g, Re n g → NX g) : WM G jX10_score [.ref 0, .int v] h (LB G jX11_score [.ref 83, .int v] none (some 1) NX) := by
  obtain ⟨q13, q1, q2, q3, q4, q5, q6, q7, q8, q9, q11, q12⟩ := id hR
  obtain ⟨l, z, l4, e1, e2, zc, zm⟩ := id q4
  obtain ⟨sc, r, r', w1, w2, w3, w4, w5, w6, w7, w8⟩ := id q8
  have zmf : ∀ {g : mH}, (∀ k, gI g 89 k = gI h 89 k) → ZM z g := fun e i hi => by rw [e]; exact zm i hi
  have iS : Iv (pR (pR h 0 7 (.ref r')) 0 8 (.ref r)) := q13.1.dy7.dy8
  refine mX10_score q13.1 zc e1 l4 w3 w4 w5 (fun c => th_I hR rfl (fun h1 X => ?_)) (fun g1 s c es C1 F1 a11 a13 a82 a16 => vl (C1.iv iS) ?_) (fun g1 w p c es wn C1 a11 a13 a82 a16 => vl (C1.iv q13.1) ?_)
  · exact mX11_score (X.iv q13.1) (zmf (fun k => X.2.2 89 k (by omega) (fun y => y))) (by rw [X.2.2 83 9 (by omega) (fun y => y)]; exact e2) l4 (fun _ => thr_m (by decide) hR nx X) (fun _ _ d => absurd d c) (fun _ _ _ d => absurd d c)
  · have V1 : ∀ o k, ¬ (o = 1 ∨ (r' ≤ o ∧ o ≤ r' + 5) ∨ (o = 82 ∧ k = 0) ∨ (o = 0 ∧ k = 16)) → gI g1 o k = gI h o k := fun o k hn => C1.2.2 o k (by unfold sgS rwS; simp; omega)
    have i1 : Iv (pJ g1 116 0 (iI ((0 : Nat) : Int)).toInt64) := C1.iv iS
    refine mX11_score (z := z) i1 (zmf (fun k => V1 89 k (by omega))) (show gI g1 83 9 = iI l from by rw [V1 83 9 (by omega)]; exact e2) l4 (fun d => absurd c d) (fun g2 s2 _ es2 C2 F2 b0 b9 b11 b90 => ?_) (fun g2 w p _ es2 => by rw [es] at es2; cases es2)
    rw [es] at es2
    cases es2
    have fb := (rn_b (p := cB) (z := z) (n := v.toInt.toNat) v.toInt.toNat 0 (by omega)).2.1
    have wf : WF s := scR_w0 (by omega) fb es
    have ln : LN s := scR_l0 (by omega) fb es
    have U : ∀ o k, o ≤ 82 → gI g2 o k = gI g1 o k := fun o k ho => by
      rw [C2.2.2.2 o k (by unfold snS; simp; omega)]
      rfl
    have V : ∀ o k, ¬ (o = 1 ∨ (r' ≤ o ∧ o ≤ r' + 5) ∨ (o = 82 ∧ k = 0) ∨ (o = 0 ∧ k = 16) ∨ (o = 83 ∧ (k = 0 ∨ (9 ≤ k ∧ k ≤ 19) ∨ k = 47 ∨ k = 48)) ∨ (104 ≤ o ∧ o ≤ 107) ∨ (o = 90 ∧ k = 0)) → gI g2 o k = gI h o k := fun o k hn => by
      rw [C2.2.2.2 o k (by unfold snS; simp; omega)]
      exact V1 o k (by omega)
    have iv2 : Iv g2 := C2.iv i1
    have sh : g2.1 = h.1 := by
      rw [C2.1]
      show g1.1 = h.1
      rw [C1.1]
      rfl
    have rr : ∀ k, gR g2 0 k = gR (pR (pR h 0 7 (.ref r')) 0 8 (.ref r)) 0 k := fun k => by
      show g2.2.2.2 0 k = _
      rw [C2.2.1]
      show g1.2.2.2 0 k = _
      rw [C1.2.1]
      rfl
    have r7 : gR g2 0 7 = .ref r' := by rw [rr, gR_pR, if_neg (by omega), gR_pR, if_pos ⟨rfl, rfl⟩]
    have r8 : gR g2 0 8 = .ref r := by rw [rr, gR_pR, if_pos ⟨rfl, rfl⟩]
    have g16 : gI g2 0 16 = gI h 0 16 + 1 := by rw [U 0 16 (by omega)]; exact a16
    obtain ⟨p12, n1, n2⟩ := P12_s (fun o k ho => V o k (by omega)) g16 q12
    obtain ⟨_, l1, l2⟩ := q13
    refine ok0 iv2 b0 (by show g2.2.2.1 116 0 = _; rw [C2.2.2.1 116 (by omega)]; rfl) (nx _ ⟨⟨iv2, by rw [sh]; omega, by unfold sl; rw [sh]; show sl h + _ ≤ _; omega⟩, P1_c (fun o k ho => V o k (by omega)) q1, P2_c (fun o k ho => V o k (by omega)) q2, fun k hk => ?_, ⟨0, z, by omega, ?_, ?_, fun i hi => ?_, fun i hi => ?_⟩, ?_, P6_c (fun o k ho => V o k (by omega)) q6, P7_c (fun o k ho => V o k (by omega)) q7, ⟨s, r', r, wf, ln, r7, r8, by omega, ⟨?_, fun a i ha hi => ?_⟩, F2, fun y => absurd y n1⟩, P9_c (fun o k ho => V o k (by omega)) q9, P11_n n2, p12⟩)
    · by_cases k0 : k = 0
      · subst k0
        rw [b90, U 82 0 (by omega), a82]
        show gI g1 90 0 = _
        rw [V1 90 0 (by omega)]
        exact q3 0 (by omega)
      · rw [V 90 k (by omega), V 82 k (by omega)]; exact q3 k hk
    · rw [U 1 1 (by omega), a11]; exact n_0
    · rw [b9]; exact n_0
    · rw [V 2 i (by omega)]; exact zc i hi
    · rw [V 89 i (by omega)]; exact zm i hi
    · show gI g2 83 11 = gI g2 1 3
      rw [b11, U 1 3 (by omega), a13]
    · rw [U r' 4 (by omega)]; exact F1.1
    · rw [U _ _ (by omega)]; exact F1.2.2.1 a i ha hi
  · have V1 : ∀ o k, ¬ (o = 1 ∨ (r' ≤ o ∧ o ≤ r' + 5) ∨ (o = 82 ∧ k = 0) ∨ (o = 0 ∧ k = 16)) → gI g1 o k = gI h o k := fun o k hn => C1.2.2 o k (by unfold sgS rwS; simp; omega)
    have X := ((Fm.rf (S := fun o k => o = 1 ∨ (r' ≤ o ∧ o ≤ r' + 5) ∨ (o = 82 ∧ k = 0) ∨ (o = 0 ∧ k = 16)) (h := h)).trC C1 (fun o k y => by unfold sgS rwS at y; simp at y; omega)).pJ 116 0 (iI (w : Nat)).toInt64
    refine mX11_score (z := z) (X.iv q13.1) (zmf (fun k => V1 89 k (by omega))) (show gI g1 83 9 = iI l from by rw [V1 83 9 (by omega)]; exact e2) l4 (fun d => absurd c d) (fun g2 s2 _ es2 => by rw [es] at es2; cases es2) (fun g2 w2 p2 _ es2 C2 b104 b0 b9 b11 b90 => ?_)
    rw [es] at es2
    cases es2
    have U : ∀ o k, o ≤ 82 → gI g2 o k = gI g1 o k := fun o k ho => by
      rw [C2.2.2.2 o k (by unfold snS; simp; omega)]
      rfl
    have Y : Fm (fun o k => o = 1 ∨ (r' ≤ o ∧ o ≤ r' + 5) ∨ (o = 82 ∧ k = 0) ∨ (o = 0 ∧ k = 16) ∨ (o = 83 ∧ (k = 0 ∨ (9 ≤ k ∧ k ≤ 19) ∨ k = 47 ∨ k = 48)) ∨ (104 ≤ o ∧ o ≤ 107) ∨ (o = 90 ∧ k = 0) ∨ o = 116) h g2 := (X.wk (fun _ _ y => by omega)).trJ C2 (fun o k y => by unfold snS at y; simp at y; omega)
    have h104 : ∀ k, gI g2 104 k = gI h 104 k := fun k => by
      rw [b104 k]
      exact V1 104 k (by omega)
    have g16 : gI g2 0 16 = gI h 0 16 + 1 := by rw [U 0 16 (by omega)]; exact a16
    obtain ⟨p12, n1, n2⟩ := P12_s (fun o k ho => Y.2.2 o k (by omega) (by omega)) g16 q12
    have SR : SRw r sc g2 := ⟨by rw [Y.2.2 r 4 (by omega) (by omega)]; exact w6.1, fun a i ha hi => by rw [Y.2.2 _ _ (by omega) (by omega)]; exact w6.2 a i ha hi⟩
    refine ok0 (Y.iv q13.1) b0 (by show g2.2.2.1 116 0 = _; rw [C2.2.2.1 116 (by omega)]; rfl) (nx _ ⟨P13_c Y q13, P1_c (fun o k ho => Y.2.2 o k (by omega) (by omega)) q1, P2_c (fun o k ho => Y.2.2 o k (by omega) (by omega)) q2, fun k hk => ?_, ⟨0, z, by omega, ?_, ?_, fun i hi => ?_, fun i hi => ?_⟩, ?_, P6_c (fun o k ho => Y.2.2 o k (by omega) (by omega)) q6, P7_c (fun o k ho => Y.2.2 o k (by omega) (by omega)) q7, ⟨sc, r, r', w1, w2, by rw [Y.2.1 0 7 (by omega)]; exact w3, by rw [Y.2.1 0 8 (by omega)]; exact w4, w5, SR, FK_c h104 w7, fun y => absurd y n1⟩, P9_c (fun o k ho => Y.2.2 o k (by omega) (by omega)) q9, P11_n n2, p12⟩)
    · by_cases k0 : k = 0
      · subst k0
        rw [b90, U 82 0 (by omega), a82]
        show gI g1 90 0 + 1 = _
        rw [V1 90 0 (by omega), q3 0 (by omega)]
      · rw [Y.2.2 90 k (by omega) (by omega), Y.2.2 82 k (by omega) (by omega)]; exact q3 k hk
    · rw [U 1 1 (by omega), a11]; exact n_0
    · rw [b9]; exact n_0
    · rw [Y.2.2 2 i (by omega) (by omega)]; exact zc i hi
    · rw [Y.2.2 89 i (by omega) (by omega)]; exact zm i hi
    · show gI g2 83 11 = gI g2 1 3
      rw [b11, U 1 3 (by omega), a13]
end LAWU6
