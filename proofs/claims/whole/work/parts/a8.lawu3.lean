section LAWU3
variable {G : GX} {h h1 : mH} {n : Nat} {NX : mH → Prop}
theorem rf_la {s : Nat} {r : Int32} (hs : s < 5) (hR : Re (n + 1) h) (nx : ∀ g, Re n g → NX g) : (Sum.inl (some (Value.int r)) : mO) = .inl (some (.int r)) ∧ Iv (pI (pI (pI h 82 s (gI h 82 s + 1)) 83 0 0) 90 s (gI (pI h 82 s (gI h 82 s + 1)) 90 s + 1)) ∧ NX (pI (pI (pI h 82 s (gI h 82 s + 1)) 83 0 0) 90 s (gI (pI h 82 s (gI h 82 s + 1)) 90 s + 1)) := by
  have q := rf_two (s := s) (g1 := pI h 82 s (gI h 82 s + 1)) hs hR (fun _ _ => rfl) rfl (fun _ _ => rfl)
  exact ⟨rfl, q.1.1, nx _ q⟩
theorem eq97 {o : Nat} (z : (o == 97) = true) : o = 97 := by simpa using z
theorem c_keep (hR : Re (n + 1) h) (nx : ∀ g, Re n g → NX g) : WM G jX10_keep [.ref 0] h (LA G jX11_keep [.ref 83] NX) := by
  obtain ⟨q13, q1, q2, q3, q4, q5, q6, q7, q8, q9, q11, q12⟩ := id hR
  obtain ⟨np, e1, e2, l8, st⟩ := q2.1.np
  refine mX10_keep q13.1 e1 l8 (fun c => ⟨_, rfl, (q13.1 : Iv (pI h 82 2 _)), ?_⟩) (fun c => ⟨_, rfl, (q13.1 : Iv (pI (pA h 35 _) 33 1 _)), ?_⟩)
  · refine mX11_keep (n := np) (show Iv (pI h 82 2 (gI h 82 2 + 1)) from q13.1) (by rw [gI_pI, if_neg (by omega), q2.2.1.1]; exact e1) l8 (fun _ => rf_la (by omega) hR nx) (fun d => by omega)
  · generalize hg1 : pI (pA h 35 (va_cpy (gI h 7) (gI h 35) 0 (12 * np) 12)) 33 1 (iI ((np + 1 : Nat) : Int)) = g1
    have X : Fm (fun o k => o = 35 ∨ (o = 33 ∧ k = 1)) h g1 := by rw [← hg1]; exact (Fm.rf.pA (fun _ => .inl rfl) _).pI (.inr ⟨rfl, rfl⟩) _
    have b : ∀ o k, 83 ≤ o ∧ o < 116 → gI g1 o k = gI h o k := fun o k ho => X.2.2 o k (by omega) (by omega)
    have g35 : ∀ k, gI g1 35 k = if 12 * np ≤ k ∧ k < 12 * np + 12 then gI h 7 (k - 12 * np) else gI h 35 k := fun k => by
      rw [← hg1, gI_pI, if_neg (by omega), gI_pA, if_pos rfl]
      unfold va_cpy
      rw [Nat.zero_add]
    have g33 : gI g1 33 1 = iI ((np + 1 : Nat) : Int) := by rw [← hg1, gI_pI, if_pos ⟨rfl, rfl⟩]
    clear hg1
    refine mX11_keep (n := np) (X.iv q13.1) (by rw [b 83 30 (by omega), q2.2.1.1]; exact e1) l8 (fun d => by omega) (fun _ h2 S2 E2 => ?_)
    have Y : Fm (fun o k => (35 ≤ o ∧ o ≤ 37) ∨ (o = 33 ∧ (k = 1 ∨ k = 3 ∨ k = 5)) ∨ (o = 0 ∧ k = 16) ∨ (o = 83 ∧ (k = 0 ∨ k = 30 ∨ k = 33 ∨ k = 36)) ∨ o = 97 ∨ o = 99 ∨ o = 101 ∨ o = 116) h (pI h2 83 30 (iI ((np + 1 : Nat) : Int))) :=
      (((X.wk (fun _ _ z => by omega)).pI (by omega) 0).trS S2 (fun o k z => .inr (.inr (.inr (.inr (.inl (eq97 z))))))).pI (by omega) _
    have U : ∀ o k, o < 97 → (o = 83 → k ≠ 0 ∧ k ≠ 30) → gI (pI h2 83 30 (iI ((np + 1 : Nat) : Int))) o k = gI g1 o k := fun o k a c => by
      rw [gI_pI, if_neg (fun z => (c z.1).2 z.2), S2.gI (by simp; omega), gI_pI, if_neg (fun z => (c z.1).1 z.2)]
    have U9 : ∀ o k, 98 ≤ o → o < 116 → gI (pI h2 83 30 (iI ((np + 1 : Nat) : Int))) o k = gI h o k := fun o k a c => by
      rw [gI_pI, if_neg (by omega), S2.gI (by simp; omega), gI_pI, if_neg (by omega)]
      exact b o k (by omega)
    have g97 : ∀ k, gI (pI h2 83 30 (iI ((np + 1 : Nat) : Int))) 97 k = if 12 * np ≤ k ∧ k < 12 * np + 12 then gI h 87 (k - 12 * np) else gI h 97 k := fun k => by
      rw [gI_pI, if_neg (by omega), E2 k, b 97 _ (by omega), b 87 _ (by omega)]
    have g30 : gI (pI h2 83 30 (iI ((np + 1 : Nat) : Int))) 83 30 = iI ((np + 1 : Nat) : Int) := by rw [gI_pI, if_pos ⟨rfl, rfl⟩]
    generalize pI h2 83 30 (iI ((np + 1 : Nat) : Int)) = g at *
    have V : ∀ o k, o < 97 → o ≠ 35 → (o = 33 → k ≠ 1) → (o = 83 → k ≠ 0 ∧ k ≠ 30) → gI g o k = gI h o k := fun o k a1 a2 a3 a4 => by
      rw [U o k a1 a4]
      exact X.2.2 o k (by omega) (by omega)
    refine ⟨rfl, Y.iv q13.1, nx _ (hk_end hR Y ?_ (P8_c (fun o k ho => ?_) (fun k => Y.2.1 0 k (by omega)) q8) (P11_c (fun o k ho => V o k (by omega) (by omega) (by omega) (by omega)) q11) (P12_c (fun o k ho => V o k (by omega) (by omega) (by omega) (by omega)) q12))⟩
    · obtain ⟨⟨np', nq, nb, f1, f2, f3, f4, f5, f6, f7⟩, ⟨b1, b2, b3⟩, c3, d3, e3⟩ := q2
      refine ⟨⟨np + 1, nq, nb, by rw [U 33 1 (by omega) (by omega)]; exact g33, by rw [V 33 3 (by omega) (by omega) (by omega) (by omega)]; exact f2, by rw [V 33 5 (by omega) (by omega) (by omega) (by omega)]; exact f3, by omega, fun i hi p hp => ?_, PtR_c (fun k => V 36 k (by omega) (by omega) (by omega) (by omega)) f6, DyR_c (fun k => V 37 k (by omega) (by omega) (by omega) (by omega)) f7⟩, ⟨?_, ?_, ?_⟩, fun k hk => ?_, fun k hk => ?_, fun k hk => ?_⟩
      · rw [U 35 _ (by omega) (by omega), U 35 _ (by omega) (by omega), U 35 _ (by omega) (by omega), g35, g35, g35]
        by_cases c : i = np
        · subst c
          rw [if_pos (by omega), if_pos (by omega), if_pos (by omega)]
          have := FR_st q1.1 p hp
          rw [show 12 * i + p - 12 * i = 0 + p from by omega, show 12 * i + (4 + p) - 12 * i = 0 + (4 + p) from by omega, show 12 * i + (8 + p) - 12 * i = 0 + (8 + p) from by omega]
          exact this
        · rw [if_neg (by omega), if_neg (by omega), if_neg (by omega)]
          exact st i (by omega) p hp
      · rw [g30, U 33 1 (by omega) (by omega), g33]
      · rw [V 83 33 (by omega) (by omega) (by omega) (by omega), V 33 3 (by omega) (by omega) (by omega) (by omega)]; exact b2
      · rw [V 83 36 (by omega) (by omega) (by omega) (by omega), V 33 5 (by omega) (by omega) (by omega) (by omega)]; exact b3
      · rw [g97, U 35 k (by omega) (by omega), g35]
        split
        · exact q1.2.2.2.2.2.1 _ (by omega)
        · exact c3 k hk
      · rw [U9 99 k (by omega) (by omega), V 36 k (by omega) (by omega) (by omega) (by omega)]; exact d3 k hk
      · rw [U9 101 k (by omega) (by omega), V 37 k (by omega) (by omega) (by omega) (by omega)]; exact e3 k hk
    · by_cases c : o = 104
      · exact U9 o k (by omega) (by omega)
      · exact V o k (by omega) (by omega) (by omega) (by omega)
theorem c_point {t a b : Int32} (hR : Re (n + 1) h) (nx : ∀ g, Re n g → NX g) : WM G jX10_point [.ref 0, .int t, .int a, .int b] h (LA G jX11_point [.ref 83, .int t, .int a, .int b] NX) := by
  obtain ⟨q13, q1, q2, q3, q4, q5, q6, q7, q8, q9, q11, q12⟩ := id hR
  obtain ⟨nq, e3, pt⟩ := q2.1.nq
  have n6 := pt.1
  refine mX10_point q13.1 e3 n6 (fun c => ⟨_, rfl, (q13.1 : Iv (pI h 82 3 _)), ?_⟩) (fun c => ⟨_, rfl, (q13.1 : Iv (pI (pI (pI (pI h 36 _ _) 36 _ _) 36 _ _) 33 3 _)), ?_⟩)
  · exact mX11_point (n := nq) (show Iv (pI h 82 3 (gI h 82 3 + 1)) from q13.1) (by rw [gI_pI, if_neg (by omega), q2.2.1.2.1]; exact e3) n6 (fun _ => rf_la (by omega) hR nx) (fun d => absurd d c)
  · generalize hg1 : pI (pI (pI (pI h 36 (3 * nq) t) 36 (3 * nq + 1) a) 36 (3 * nq + 2) b) 33 3 (iI ((nq + 1 : Nat) : Int)) = g1
    have X : Fm (fun o k => o = 36 ∨ (o = 33 ∧ k = 3)) h g1 := by rw [← hg1]; exact (((Fm.rf.pI (.inl rfl) _).pI (.inl rfl) _).pI (.inl rfl) _).pI (.inr ⟨rfl, rfl⟩) _
    have bb : ∀ o k, 83 ≤ o ∧ o < 116 → gI g1 o k = gI h o k := fun o k ho => X.2.2 o k (by omega) (by omega)
    have g36 : ∀ k, gI g1 36 k = if k = 3 * nq + 2 then b else if k = 3 * nq + 1 then a else if k = 3 * nq then t else gI h 36 k := fun k => by
      rw [← hg1, gI_pI, if_neg (by omega), gI_pI, gI_pI, gI_pI]
      simp
    have g33 : gI g1 33 3 = iI ((nq + 1 : Nat) : Int) := by rw [← hg1, gI_pI, if_pos ⟨rfl, rfl⟩]
    clear hg1
    refine mX11_point (n := nq) (X.iv q13.1) (by rw [bb 83 33 (by omega), q2.2.1.2.1]; exact e3) n6 (fun d => absurd c d) (fun _ => ?_)
    generalize hg : pI (pI (pI (pI (pI g1 83 0 0) 99 (3 * nq) t) 99 (3 * nq + 1) a) 99 (3 * nq + 2) b) 83 33 (iI ((nq + 1 : Nat) : Int)) = g
    have Y : Fm (fun o k => (35 ≤ o ∧ o ≤ 37) ∨ (o = 33 ∧ (k = 1 ∨ k = 3 ∨ k = 5)) ∨ (o = 0 ∧ k = 16) ∨ (o = 83 ∧ (k = 0 ∨ k = 30 ∨ k = 33 ∨ k = 36)) ∨ o = 97 ∨ o = 99 ∨ o = 101 ∨ o = 116) h g := by
      rw [← hg]
      exact ((((((X.wk (fun _ _ z => by omega)).pI (by omega) _).pI (by omega) _).pI (by omega) _).pI (by omega) _).pI (by omega) _)
    have V : ∀ o k, o < 116 → o ≠ 36 → o ≠ 99 → (o = 33 → k ≠ 3) → (o = 83 → k ≠ 0 ∧ k ≠ 33) → gI g o k = gI h o k := fun o k a1 a2 a3 a4 a5 => by
      rw [← hg, gI_pI, if_neg (fun z => (a5 z.1).2 z.2), gI_pI, if_neg (by omega), gI_pI, if_neg (by omega), gI_pI, if_neg (by omega), gI_pI, if_neg (fun z => (a5 z.1).1 z.2)]
      exact X.2.2 o k (by omega) (by omega)
    have h36 : ∀ k, gI g 36 k = if k = 3 * nq + 2 then b else if k = 3 * nq + 1 then a else if k = 3 * nq then t else gI h 36 k := fun k => by
      rw [← hg, gI_pI, if_neg (by omega), gI_pI, if_neg (by omega), gI_pI, if_neg (by omega), gI_pI, if_neg (by omega), gI_pI, if_neg (by omega)]
      exact g36 k
    have h99 : ∀ k, gI g 99 k = if k = 3 * nq + 2 then b else if k = 3 * nq + 1 then a else if k = 3 * nq then t else gI h 99 k := fun k => by
      rw [← hg, gI_pI, if_neg (by omega), gI_pI, gI_pI, gI_pI, gI_pI, if_neg (show ¬ ((99 : Nat) = 83 ∧ k = 0) by omega), bb 99 k (by omega)]
      simp
    have h33 : gI g 33 3 = iI ((nq + 1 : Nat) : Int) := by
      rw [← hg, gI_pI, if_neg (by omega), gI_pI, if_neg (by omega), gI_pI, if_neg (by omega), gI_pI, if_neg (by omega), gI_pI, if_neg (by omega)]
      exact g33
    have h83 : gI g 83 33 = iI ((nq + 1 : Nat) : Int) := by rw [← hg, gI_pI, if_pos ⟨rfl, rfl⟩]
    clear hg
    refine ⟨rfl, Y.iv q13.1, nx _ (hk_end hR Y ?_ (P8_c (fun o k ho => V o k (by omega) (by omega) (by omega) (by omega) (by omega)) (fun k => Y.2.1 0 k (by omega)) q8) (P11_c (fun o k ho => V o k (by omega) (by omega) (by omega) (by omega) (by omega)) q11) (P12_c (fun o k ho => V o k (by omega) (by omega) (by omega) (by omega) (by omega)) q12))⟩
    obtain ⟨⟨np, nq', nb, f1, f2, f3, f4, f5, f6, f7⟩, ⟨b1, b2, b3⟩, c3, d3, e3'⟩ := q2
    obtain ⟨c1, ⟨t1, t2⟩, ⟨a1, a2⟩, ⟨b1', b2'⟩⟩ := c
    refine ⟨⟨np, nq + 1, nb, by rw [V 33 1 (by omega) (by omega) (by omega) (by omega) (by omega)]; exact f1, h33, by rw [V 33 5 (by omega) (by omega) (by omega) (by omega) (by omega)]; exact f3, f4, fun i hi => StW_c (fun k => V 35 k (by omega) (by omega) (by omega) (by omega) (by omega)) (f5 i hi), ⟨by omega, fun i hi => ?_⟩, DyR_c (fun k => V 37 k (by omega) (by omega) (by omega) (by omega) (by omega)) f7⟩, ⟨?_, ?_, ?_⟩, fun k hk => ?_, fun k hk => ?_, fun k hk => ?_⟩
    · by_cases c : i = nq
      · subst c
        rw [h36, if_neg (by omega), if_neg (by omega), if_pos rfl]
        refine ⟨⟨t1, t2⟩, fun ax hx => ?_⟩
        rw [h36]
        by_cases x : ax = 0
        · subst x
          rw [if_neg (by omega), if_pos rfl]
          exact ⟨a1, a2⟩
        · rw [if_pos (by omega)]
          exact ⟨b1', b2'⟩
      · obtain ⟨y, z⟩ := pt.2 i (by omega)
        rw [h36, if_neg (by omega), if_neg (by omega), if_neg (by omega)]
        refine ⟨y, fun ax hx => ?_⟩
        rw [h36, if_neg (by omega), if_neg (by omega), if_neg (by omega)]
        exact z ax hx
    · rw [V 83 30 (by omega) (by omega) (by omega) (by omega) (by omega), V 33 1 (by omega) (by omega) (by omega) (by omega) (by omega)]; exact b1
    · rw [h83, h33]
    · rw [V 83 36 (by omega) (by omega) (by omega) (by omega) (by omega), V 33 5 (by omega) (by omega) (by omega) (by omega) (by omega)]; exact b3
    · rw [V 97 k (by omega) (by omega) (by omega) (by omega) (by omega), V 35 k (by omega) (by omega) (by omega) (by omega) (by omega)]; exact c3 k hk
    · rw [h99, h36, d3 k hk]
    · rw [V 101 k (by omega) (by omega) (by omega) (by omega) (by omega), V 37 k (by omega) (by omega) (by omega) (by omega) (by omega)]; exact e3' k hk
theorem c_unpoint (hR : Re (n + 1) h) (nx : ∀ g, Re n g → NX g) : WM G jX10_unpoint [.ref 0] h (LA G jX11_unpoint [.ref 83] NX) := by
  obtain ⟨q13, q1, q2, q3, q4, q5, q6, q7, q8, q9, q11, q12⟩ := id hR
  obtain ⟨nq, e3, pt⟩ := q2.1.nq
  have n6 := pt.1
  refine mX10_unpoint q13.1 e3 n6 (fun c => ⟨_, rfl, q13.1, ?_⟩) (fun c => ⟨_, rfl, (q13.1 : Iv (pI h 33 3 _)), ?_⟩)
  · have Y := (Fm.rf (S := HP) (h := h)).pI hp0 0
    exact mX11_unpoint (n := nq) q13.1 (by rw [q2.2.1.2.1]; exact e3) n6 (fun _ => ⟨rfl, Y.iv q13.1, nx _ (Re_q hR Y)⟩) (fun d => by omega)
  · refine mX11_unpoint (n := nq) (show Iv (pI h 33 3 (iI ((nq - 1 : Nat) : Int))) from q13.1) (by rw [gI_pI, if_neg (by omega), q2.2.1.2.1]; exact e3) n6 (fun d => by omega) (fun _ => ?_)
    generalize hg : pI (pI (pI h 33 3 (iI ((nq - 1 : Nat) : Int))) 83 0 0) 83 33 (iI ((nq - 1 : Nat) : Int)) = g
    have Y : Fm (fun o k => (35 ≤ o ∧ o ≤ 37) ∨ (o = 33 ∧ (k = 1 ∨ k = 3 ∨ k = 5)) ∨ (o = 0 ∧ k = 16) ∨ (o = 83 ∧ (k = 0 ∨ k = 30 ∨ k = 33 ∨ k = 36)) ∨ o = 97 ∨ o = 99 ∨ o = 101 ∨ o = 116) h g := by
      rw [← hg]
      exact (((Fm.rf).pI (by omega) _).pI (by omega) _).pI (by omega) _
    have V : ∀ o k, (o = 33 → k ≠ 3) → (o = 83 → k ≠ 0 ∧ k ≠ 33) → gI g o k = gI h o k := fun o k a4 a5 => by
      rw [← hg, gI_pI, if_neg (fun z => (a5 z.1).2 z.2), gI_pI, if_neg (fun z => (a5 z.1).1 z.2), gI_pI, if_neg (fun z => a4 z.1 z.2)]
    have h33 : gI g 33 3 = iI ((nq - 1 : Nat) : Int) := by rw [← hg, gI_pI, if_neg (by omega), gI_pI, if_neg (by omega), gI_pI, if_pos ⟨rfl, rfl⟩]
    have h83 : gI g 83 33 = iI ((nq - 1 : Nat) : Int) := by rw [← hg, gI_pI, if_pos ⟨rfl, rfl⟩]
    clear hg
    refine ⟨rfl, Y.iv q13.1, nx _ (hk_end hR Y ?_ (P8_c (fun o k ho => V o k (by omega) (by omega)) (fun k => Y.2.1 0 k (by omega)) q8) (P11_c (fun o k ho => V o k (by omega) (by omega)) q11) (P12_c (fun o k ho => V o k (by omega) (by omega)) q12))⟩
    obtain ⟨⟨np, nq', nb, f1, f2, f3, f4, f5, f6, f7⟩, ⟨b1, b2, b3⟩, c3, d3, e3'⟩ := q2
    refine ⟨⟨np, nq - 1, nb, by rw [V 33 1 (by omega) (by omega)]; exact f1, h33, by rw [V 33 5 (by omega) (by omega)]; exact f3, f4, fun i hi => StW_c (fun k => V 35 k (by omega) (by omega)) (f5 i hi), ⟨by omega, fun i hi => ?_⟩, DyR_c (fun k => V 37 k (by omega) (by omega)) f7⟩, ⟨?_, ?_, ?_⟩, fun k hk => ?_, fun k hk => ?_, fun k hk => ?_⟩
    · obtain ⟨y, z⟩ := pt.2 i (by omega)
      rw [V 36 _ (by omega) (by omega)]
      exact ⟨y, fun ax hx => by rw [V 36 _ (by omega) (by omega)]; exact z ax hx⟩
    · rw [V 83 30 (by omega) (by omega), V 33 1 (by omega) (by omega)]; exact b1
    · rw [h83, h33]
    · rw [V 83 36 (by omega) (by omega), V 33 5 (by omega) (by omega)]; exact b3
    · rw [V 97 k (by omega) (by omega), V 35 k (by omega) (by omega)]; exact c3 k hk
    · rw [V 99 k (by omega) (by omega), V 36 k (by omega) (by omega)]; exact d3 k hk
    · rw [V 101 k (by omega) (by omega), V 37 k (by omega) (by omega)]; exact e3' k hk
theorem c_birthday {v : Int32} (hR : Re (n + 1) h) (nx : ∀ g, Re n g → NX g) : WM G jX10_birthday [.ref 0, .int v] h (LA G jX11_birthday [.ref 83, .int v] NX) := by
  obtain ⟨q13, q1, q2, q3, q4, q5, q6, q7, q8, q9, q11, q12⟩ := id hR
  obtain ⟨nb, e5, dy⟩ := q2.1.nb
  have n10 := dy.1
  refine mX10_birthday q13.1 e5 n10 (fun c => ⟨_, rfl, (q13.1 : Iv (pI h 82 4 _)), ?_⟩) (fun c => ⟨_, rfl, (q13.1 : Iv (pI (pI (pI h 37 _ _) 33 5 _) 0 16 _)), ?_⟩)
  · exact mX11_birthday (n := nb) (show Iv (pI h 82 4 (gI h 82 4 + 1)) from q13.1) (by rw [gI_pI, if_neg (by omega), q2.2.1.2.2]; exact e5) n10 (fun _ => rf_la (by omega) hR nx) (fun d => absurd d c)
  · refine mX11_birthday (n := nb) (show Iv (pI (pI (pI h 37 nb v) 33 5 (iI ((nb + 1 : Nat) : Int))) 0 16 (gI h 0 16 + 1)) from q13.1) (by rw [gI_pI, if_neg (by omega), gI_pI, if_neg (by omega), gI_pI, if_neg (by omega), q2.2.1.2.2]; exact e5) n10 (fun d => absurd c d) (fun _ => ?_)
    generalize hg : pI (pI (pI (pI (pI (pI h 37 nb v) 33 5 (iI ((nb + 1 : Nat) : Int))) 0 16 (gI h 0 16 + 1)) 83 0 0) 101 nb v) 83 36 (iI ((nb + 1 : Nat) : Int)) = g
    have Y : Fm (fun o k => (35 ≤ o ∧ o ≤ 37) ∨ (o = 33 ∧ (k = 1 ∨ k = 3 ∨ k = 5)) ∨ (o = 0 ∧ k = 16) ∨ (o = 83 ∧ (k = 0 ∨ k = 30 ∨ k = 33 ∨ k = 36)) ∨ o = 97 ∨ o = 99 ∨ o = 101 ∨ o = 116) h g := by
      rw [← hg]
      exact ((((((Fm.rf).pI (by omega) _).pI (by omega) _).pI (by omega) _).pI (by omega) _).pI (by omega) _).pI (by omega) _
    have V : ∀ o k, o ≠ 37 → o ≠ 101 → (o = 0 → k ≠ 16) → (o = 33 → k ≠ 5) → (o = 83 → k ≠ 0 ∧ k ≠ 36) → gI g o k = gI h o k := fun o k a1 a2 a3 a4 a5 => by
      rw [← hg, gI_pI, if_neg (fun z => (a5 z.1).2 z.2), gI_pI, if_neg (fun z => a2 z.1), gI_pI, if_neg (fun z => (a5 z.1).1 z.2), gI_pI, if_neg (fun z => a3 z.1 z.2), gI_pI, if_neg (fun z => a4 z.1 z.2), gI_pI, if_neg (fun z => a1 z.1)]
    have h37 : ∀ k, gI g 37 k = if k = nb then v else gI h 37 k := fun k => by
      rw [← hg, gI_pI, if_neg (by omega), gI_pI, if_neg (by omega), gI_pI, if_neg (by omega), gI_pI, if_neg (by omega), gI_pI, if_neg (by omega), gI_pI]
      simp
    have h101 : ∀ k, gI g 101 k = if k = nb then v else gI h 101 k := fun k => by
      rw [← hg, gI_pI, if_neg (by omega), gI_pI, gI_pI, if_neg (show ¬ ((101 : Nat) = 83 ∧ k = 0) by omega), gI_pI, if_neg (show ¬ ((101 : Nat) = 0 ∧ k = 16) by omega), gI_pI, if_neg (show ¬ ((101 : Nat) = 33 ∧ k = 5) by omega), gI_pI, if_neg (show ¬ ((101 : Nat) = 37 ∧ k = nb) by omega)]
      simp
    have h33 : gI g 33 5 = iI ((nb + 1 : Nat) : Int) := by rw [← hg, gI_pI, if_neg (by omega), gI_pI, if_neg (by omega), gI_pI, if_neg (by omega), gI_pI, if_neg (by omega), gI_pI, if_pos ⟨rfl, rfl⟩]
    have h83 : gI g 83 36 = iI ((nb + 1 : Nat) : Int) := by rw [← hg, gI_pI, if_pos ⟨rfl, rfl⟩]
    have h16 : gI g 0 16 = gI h 0 16 + 1 := by rw [← hg, gI_pI, if_neg (by omega), gI_pI, if_neg (by omega), gI_pI, if_neg (by omega), gI_pI, if_pos ⟨rfl, rfl⟩]
    clear hg
    obtain ⟨p12, n1, n2⟩ := P12_s (fun o k ho => V o k (by omega) (by omega) (by omega) (by omega) (by omega)) h16 q12
    refine ⟨rfl, Y.iv q13.1, nx _ (hk_end hR Y ?_ (P8_n (fun o k ho => V o k (by omega) (by omega) (by omega) (by omega) (by omega)) (fun k => Y.2.1 0 k (by omega)) n1 q8) (P11_n n2) p12)⟩
    obtain ⟨⟨np, nq, nb', f1, f2, f3, f4, f5, f6, f7⟩, ⟨b1, b2, b3⟩, c3, d3, e3'⟩ := q2
    refine ⟨⟨np, nq, nb + 1, by rw [V 33 1 (by omega) (by omega) (by omega) (by omega) (by omega)]; exact f1, by rw [V 33 3 (by omega) (by omega) (by omega) (by omega) (by omega)]; exact f2, h33, f4, fun i hi => StW_c (fun k => V 35 k (by omega) (by omega) (by omega) (by omega) (by omega)) (f5 i hi), PtR_c (fun k => V 36 k (by omega) (by omega) (by omega) (by omega) (by omega)) f6, ⟨by have := c.1; omega, fun k hk => ?_⟩⟩, ⟨?_, ?_, ?_⟩, fun k hk => ?_, fun k hk => ?_, fun k hk => ?_⟩
    · rw [h37]
      split
      · exact c.2
      · exact dy.2 k (by omega)
    · rw [V 83 30 (by omega) (by omega) (by omega) (by omega) (by omega), V 33 1 (by omega) (by omega) (by omega) (by omega) (by omega)]; exact b1
    · rw [V 83 33 (by omega) (by omega) (by omega) (by omega) (by omega), V 33 3 (by omega) (by omega) (by omega) (by omega) (by omega)]; exact b2
    · rw [h83, h33]
    · rw [V 97 k (by omega) (by omega) (by omega) (by omega) (by omega), V 35 k (by omega) (by omega) (by omega) (by omega) (by omega)]; exact c3 k hk
    · rw [V 99 k (by omega) (by omega) (by omega) (by omega) (by omega), V 36 k (by omega) (by omega) (by omega) (by omega) (by omega)]; exact d3 k hk
    · rw [h101, h37, e3' k hk]
theorem c_forget (hR : Re (n + 1) h) (nx : ∀ g, Re n g → NX g) : WM G jX10_forget [.ref 0] h (LA G jX11_forget [.ref 83] NX) := by
  obtain ⟨q13, q1, q2, q3, q4, q5, q6, q7, q8, q9, q11, q12⟩ := id hR
  refine mX10_forget q13.1 ⟨_, rfl, (q13.1 : Iv (pI (pI h 33 5 0) 0 16 _)), mX11_forget (show Iv (pI (pI h 33 5 0) 0 16 (gI h 0 16 + 1)) from q13.1) ?_⟩
  rw [gI_pI, if_neg (by omega), gI_pI, if_neg (by omega), q2.2.1.2.2]
  generalize hg : pI (pI (pI (pI h 33 5 0) 0 16 (gI h 0 16 + 1)) 83 0 0) 83 36 0 = g
  have Y : Fm (fun o k => (35 ≤ o ∧ o ≤ 37) ∨ (o = 33 ∧ (k = 1 ∨ k = 3 ∨ k = 5)) ∨ (o = 0 ∧ k = 16) ∨ (o = 83 ∧ (k = 0 ∨ k = 30 ∨ k = 33 ∨ k = 36)) ∨ o = 97 ∨ o = 99 ∨ o = 101 ∨ o = 116) h g := by
    rw [← hg]
    exact ((((Fm.rf).pI (by omega) _).pI (by omega) _).pI (by omega) _).pI (by omega) _
  have V : ∀ o k, (o = 0 → k ≠ 16) → (o = 33 → k ≠ 5) → (o = 83 → k ≠ 0 ∧ k ≠ 36) → gI g o k = gI h o k := fun o k a3 a4 a5 => by
    rw [← hg, gI_pI, if_neg (fun z => (a5 z.1).2 z.2), gI_pI, if_neg (fun z => (a5 z.1).1 z.2), gI_pI, if_neg (fun z => a3 z.1 z.2), gI_pI, if_neg (fun z => a4 z.1 z.2)]
  have h33 : gI g 33 5 = iI ((0 : Nat) : Int) := by rw [← hg, gI_pI, if_neg (by omega), gI_pI, if_neg (by omega), gI_pI, if_neg (by omega), gI_pI, if_pos ⟨rfl, rfl⟩]; exact n_0
  have h83 : gI g 83 36 = iI ((0 : Nat) : Int) := by rw [← hg, gI_pI, if_pos ⟨rfl, rfl⟩]; exact n_0
  have h16 : gI g 0 16 = gI h 0 16 + 1 := by rw [← hg, gI_pI, if_neg (by omega), gI_pI, if_neg (by omega), gI_pI, if_pos ⟨rfl, rfl⟩]
  clear hg
  obtain ⟨p12, n1, n2⟩ := P12_s (fun o k ho => V o k (by omega) (by omega) (by omega)) h16 q12
  refine ⟨rfl, Y.iv q13.1, nx _ (hk_end hR Y ?_ (P8_n (fun o k ho => V o k (by omega) (by omega) (by omega)) (fun k => Y.2.1 0 k (by omega)) n1 q8) (P11_n n2) p12)⟩
  obtain ⟨⟨np, nq, nb', f1, f2, f3, f4, f5, f6, f7⟩, ⟨b1, b2, b3⟩, c3, d3, e3'⟩ := q2
  refine ⟨⟨np, nq, 0, by rw [V 33 1 (by omega) (by omega) (by omega)]; exact f1, by rw [V 33 3 (by omega) (by omega) (by omega)]; exact f2, h33, f4, fun i hi => StW_c (fun k => V 35 k (by omega) (by omega) (by omega)) (f5 i hi), PtR_c (fun k => V 36 k (by omega) (by omega) (by omega)) f6, ⟨by omega, fun k hk => by omega⟩⟩, ⟨?_, ?_, ?_⟩, fun k hk => ?_, fun k hk => ?_, fun k hk => ?_⟩
  · rw [V 83 30 (by omega) (by omega) (by omega), V 33 1 (by omega) (by omega) (by omega)]; exact b1
  · rw [V 83 33 (by omega) (by omega) (by omega), V 33 3 (by omega) (by omega) (by omega)]; exact b2
  · rw [h83, h33]
  · rw [V 97 k (by omega) (by omega) (by omega), V 35 k (by omega) (by omega) (by omega)]; exact c3 k hk
  · rw [V 99 k (by omega) (by omega) (by omega), V 36 k (by omega) (by omega) (by omega)]; exact d3 k hk
  · rw [V 101 k (by omega) (by omega) (by omega), V 37 k (by omega) (by omega) (by omega)]; exact e3' k hk
end LAWU3
