section LAWU
variable {G : GX} {h h1 : mH} {n : Nat} {NX : mH → Prop}
theorem OuC_fd {R : Nat → Nat → Int} {sz : Nat} {W : WL} {x : Option PS} (p : OuC R sz W x h) : FdOk h 56 := by
  cases x with
  | none => exact p.1
  | some s => exact p.2.1.2.2.2.2
theorem pl_hc {o k : Nat} (z : plS o k = true) : HC o k ∧ o ≤ 82 ∧ 55 ≤ o ∧ o ≤ 67 := by
  unfold plS pfS drS mr at z
  simp at z
  unfold HC HP
  omega
theorem pn_hp {o k : Nat} (z : pnS o k = true) : HP o k ∧ 83 ≤ o := by
  unfold pnS pmS at z
  simp at z
  unfold HP
  omega
/-- behind a performance, asked of both -/
theorem pf_end {g g2 : mH} {sc : PF} {r r' : Nat} {v : Int64} (hR : Re (n + 1) h) (w1 : WF sc) (w2 : LN sc) (w3 : gR h 0 7 = .ref r) (w4 : gR h 0 8 = .ref r') (w5 : (r = 43 ∧ r' = 49) ∨ (r = 49 ∧ r' = 43)) (w6 : SRw r sc h) (w7 : FK sc h) (C : Ce plS h g) (e : gI g 55 8 = gI h 0 16) (O : OuC sc.2.1 sc.1 (wlC h) (plP (wlC h) sc (stC h)) g) (C2 : Ce pnS (pJ g 116 0 v) g2) : Re n g2 := by
  obtain ⟨q13, q1, q2, q3, q4, q5, q6, q7, q8, q9, q11, q12⟩ := id hR
  have Y : Fm HC h g2 := ((Fm.rf.trC C (fun o k z => (pl_hc z).1)).pJ 116 0 v).trC C2 (fun o k z => .inl (pn_hp z).1)
  have U2 : ∀ o k, o ≤ 82 → gI g2 o k = gI g o k := fun o k ho => C2.2.2 o k (Bool.eq_false_iff.mpr (fun z => by have := (pn_hp z).2; omega))
  have U : ∀ o k, o ≤ 54 ∨ (68 ≤ o ∧ o ≤ 82) → gI g2 o k = gI h o k := fun o k ho => by
    rw [U2 o k (by omega)]
    exact C.2.2 o k (Bool.eq_false_iff.mpr (fun z => by have := (pl_hc z).2; omega))
  obtain ⟨x1, x2⟩ := wlC_c (h := h) (h' := g2) (fun o k ho => U o k (by omega))
  refine Re_g hR Y ⟨sc, r, r', w1, w2, by rw [Y.2.1 0 7 (by omega)]; exact w3, by rw [Y.2.1 0 8 (by omega)]; exact w4, w5, SRw_u (by omega) (fun o k ho => U o k (by omega)) w6, FK_c (fun k => ?_) w7, fun _ => ?_⟩ ⟨FdOk_r (fun o k ho => U o k (by omega)) q9.1, FdOk_r (fun o k ho => U o k (by omega)) q9.2.1, FdOk_r (fun o k ho => U2 o k (by omega)) (OuC_fd O)⟩ (P11_c (fun o k ho => U o k (by omega)) q11) ?_
  · exact Y.2.2 104 k (by omega) (by unfold HC HP; omega)
  · rw [x1, x2]
    exact OuC_c (fun o k ho => U2 o k (by omega)) O
  · obtain ⟨c, a, b, f1, l, f2, b1, b2, f3, b3, b4⟩ := q12
    exact ⟨c, (c : Int), b, by rw [U 0 16 (by omega)]; exact f1, by omega, by rw [U2 55 8 (by omega), e]; exact f1, by omega, by omega, by rw [U 80 2 (by omega)]; exact f3, b3, b4⟩
theorem c_performed {v : Int32} (hR : Re (n + 1) h) (nx : ∀ g, Re n g → NX g) : WM G jX10_performed [.ref 0, .int v] h (LB G jX11_performed [.ref 83, .int v] (some 1) none NX) := by
  obtain ⟨q13, q1, q2, q3, q4, q5, q6, q7, q8, q9, q11, q12⟩ := id hR
  obtain ⟨sc, r, r', w1, w2, w3, w4, w5, w6, w7, w8⟩ := q8
  refine mX10_performed q13.1 w3 (by omega) w1 w6 q1.1 q1.2.1 q9.2.2 w8 (fun c => th_N hR rfl (fun h1 X => ?_)) (fun g c C e O => vl (C.iv q13.1) ?_)
  · have s := X.sa Nf_82 q1
    exact mX11_performed (X.iv q13.1) w1 w2 (FK_c (fun k => X.2.2 104 k (by omega) (fun z => z)) w7) (s.mr q1.1) (s.cm q1.2.1) (fun _ => thr_m (by decide) hR nx X) (fun _ d => absurd d c)
  · have X := ((Fm.rf (S := fun o _ => 55 ≤ o ∧ o ≤ 67) (h := h)).trC C (fun o k z => (pl_hc z).2.2)).pJ 116 0 (iI (pfV (wlC h) (plP (wlC h) sc (stC h)) v)).toInt64
    have s := X.sa (fun o k z => by omega) q1
    refine mX11_performed (sc := sc) (X.iv q13.1) w1 w2 (FK_c (fun k => X.2.2 104 k (by omega) (by omega)) w7) (s.mr q1.1) (s.cm q1.2.1) (fun d => absurd c d) (fun g2 _ C2 g0 => ?_)
    rw [s.wl.1, s.wl.2]
    refine ok0 (C2.iv (X.iv q13.1)) g0 (by show g2.2.2.1 116 0 = _; rw [C2.2.1]; rfl) (nx _ (pf_end hR w1 w2 w3 w4 w5 w6 w7 C e O C2))
theorem c_marks {v : Int32} (hR : Re (n + 1) h) (nx : ∀ g, Re n g → NX g) : WM G jX10_marks [.ref 0, .int v] h (LB G jX11_marks [.ref 83, .int v] (some 1) none NX) := by
  obtain ⟨q13, q1, q2, q3, q4, q5, q6, q7, q8, q9, q11, q12⟩ := id hR
  obtain ⟨sc, r, r', w1, w2, w3, w4, w5, w6, w7, w8⟩ := q8
  refine mX10_marks q13.1 w3 (by omega) w1 w6 q1.1 q1.2.1 q9.2.2 w8 (fun c => th_N hR rfl (fun h1 X => ?_)) (fun g c C e O => vl (C.iv q13.1) ?_)
  · have s := X.sa Nf_82 q1
    exact mX11_marks (X.iv q13.1) w1 w2 (FK_c (fun k => X.2.2 104 k (by omega) (fun z => z)) w7) (s.mr q1.1) (s.cm q1.2.1) (fun _ => thr_m (by decide) hR nx X) (fun _ d => absurd d c)
  · have X := ((Fm.rf (S := fun o _ => 55 ≤ o ∧ o ≤ 67) (h := h)).trC C (fun o k z => (pl_hc z).2.2)).pJ 116 0 (iI (mkV (plP (wlC h) sc (stC h)) v.toInt.toNat)).toInt64
    have s := X.sa (fun o k z => by omega) q1
    refine mX11_marks (sc := sc) (X.iv q13.1) w1 w2 (FK_c (fun k => X.2.2 104 k (by omega) (by omega)) w7) (s.mr q1.1) (s.cm q1.2.1) (fun d => absurd c d) (fun g2 _ C2 g0 => ?_)
    rw [s.wl.1, s.wl.2]
    refine ok0 (C2.iv (X.iv q13.1)) g0 (by show g2.2.2.1 116 0 = _; rw [C2.2.1]; rfl) (nx _ (pf_end hR w1 w2 w3 w4 w5 w6 w7 C e O C2))
theorem c_drawing {v : Int32} (hR : Re (n + 1) h) (nx : ∀ g, Re n g → NX g) : WM G jX10_drawing [.ref 0, .int v] h (LB G jX11_drawing [.ref 83, .int v] (some 1) none NX) := by
  obtain ⟨q13, q1, q2, q3, q4, q5, q6, q7, q8, q9, q11, q12⟩ := id hR
  have b1 : (gI h 75 1).toInt ≤ 8 ∧ (gI h 83 40).toInt ≤ 8 := by
    rcases q6 with ⟨a, b⟩ | ⟨m, a, b, c, d, _⟩
    · rw [a, b]; decide
    · rw [c, d, iI_toInt ⟨by omega, by omega⟩]; omega
  have eqv : (gI h 83 40 = -1 ∨ ¬ dwk (gI h 83 40) v) ↔ (gI h 75 1 = 0 ∨ ¬ dwk (gI h 75 1) v) := by
    rcases q6 with ⟨a, b⟩ | ⟨m, a, b, c, d, _⟩
    · exact ⟨fun _ => .inl a, fun _ => .inl b⟩
    · have e1 : ¬ iI (m : Int) = -1 := by rw [show (-1 : Int32) = iI (-1) from by decide, iI_eq ⟨by omega, by omega⟩ ⟨by decide, by decide⟩]; omega
      have e2 : ¬ iI (m : Int) = 0 := by rw [n_0, eq_n (by omega) (by omega)]; omega
      rw [c, d]
      exact ⟨fun z => z.elim (fun z => absurd z e1) .inr, fun z => z.elim (fun z => absurd z e2) .inr⟩
  refine mX10_drawing q13.1 b1.1 (fun c => th_N hR rfl (fun h1 X => ?_)) (fun c1 c2 => vl q13.1 ?_)
  · have e40 : gI h1 83 40 = gI h 83 40 := X.2.2 83 40 (by omega) (fun z => z)
    have c' := eqv.mpr c
    rw [← e40] at c'
    exact mX11_drawing (X.iv q13.1) (by rw [e40]; exact b1.2) (fun _ => thr_m (by decide) hR nx X) (fun d1 d2 => absurd c' (fun z => z.elim d1 (fun z => z d2)))
  · have X := (Fm.rf (S := Nf) (h := h)).pJ 116 0 (dwV h 76 (gI h 75 2) v).toInt64
    have nc : ¬ (gI h 83 40 = -1 ∨ ¬ dwk (gI h 83 40) v) := fun z => (eqv.mp z).elim c1 (fun z => z c2)
    refine mX11_drawing (X.iv q13.1) b1.2 (fun d => absurd d nc) (fun _ _ => ?_)
    have ev : dwV (pJ h 116 0 (dwV h 76 (gI h 75 2) v).toInt64) 103 (gI (pJ h 116 0 (dwV h 76 (gI h 75 2) v).toInt64) 83 41) v = dwV h 76 (gI h 75 2) v := by
      rcases q6 with ⟨a, b⟩ | ⟨m, a, b, c, d, e, f⟩
      · exact absurd a c1
      · unfold dwV
        by_cases z : v = -1
        · rw [if_pos z, if_pos z]; exact e
        · rw [if_neg z, if_neg z]
          refine f _ ?_
          have y1 := c2.1
          have y2 := c2.2
          rw [c, iI_toInt ⟨by omega, by omega⟩] at y2
          have : v.toInt ≠ -1 := fun y => z (Int32.toInt_inj.mp (y.trans (by decide)))
          omega
    rw [ev]
    have Y := (X.wk (T := HP) (fun _ _ z => z.elim)).pI hp0 0
    exact ok0 (Y.iv q13.1) (by rw [gI_pI, if_pos ⟨rfl, rfl⟩]) rfl (nx _ (Re_q hR Y))
theorem P8_n (U : ∀ o k, (43 ≤ o ∧ o ≤ 54) ∨ o = 104 → gI h1 o k = gI h o k) (V : ∀ k, gR h1 0 k = gR h 0 k) (ne : gI h1 55 8 ≠ gI h1 0 16) (p : P8 h) : P8 h1 := by
  obtain ⟨sc, r, r', a, b, c, d, e, f, g, q⟩ := p
  exact ⟨sc, r, r', a, b, by rw [V]; exact c, by rw [V]; exact d, e, SRw_u (by omega) (fun o k ho => U o k (by omega)) f, FK_c (fun k => U 104 k (by omega)) g, fun z => absurd z ne⟩
theorem P11_n (ne : gI h1 80 2 ≠ gI h1 0 16) : P11 h1 := fun _ _ _ z => absurd z ne
/-- a refusal, counted by both -/
theorem rf_end {g : mH} {s : Nat} (hs : s < 5) (hR : Re (n + 1) h) (X : Fm (fun o k => HP o k ∨ o = 82 ∨ o = 90) h g) (e1 : ∀ k, k < 5 → gI g 90 k = gI g 82 k) : Re n g := by
  obtain ⟨q13, q1, q2, q3, q4, q5, q6, q7, q8, q9, q11, q12⟩ := id hR
  refine ⟨P13_c X q13, P1_c (fun o k ho => X.2.2 o k (by omega) ?_) q1, P2_c (fun o k ho => X.2.2 o k (by omega) ?_) q2, e1, P4_c (fun o k ho => X.2.2 o k (by omega) ?_) q4, P5_c (fun o k ho => X.2.2 o k (by omega) ?_) q5, P6_c (fun o k ho => X.2.2 o k (by omega) ?_) q6, P7_c (fun o k ho => X.2.2 o k (by omega) ?_) q7, P8_c (fun o k ho => X.2.2 o k (by omega) ?_) (fun k => X.2.1 0 k (by omega)) q8, P9_c (fun o k ho => X.2.2 o k (by omega) ?_) q9, P11_c (fun o k ho => X.2.2 o k (by omega) ?_) q11, P12_c (fun o k ho => X.2.2 o k (by omega) ?_) q12⟩
  all_goals
    unfold HP
    omega
/-- both count a refusal -/
theorem rf_two {s : Nat} {g1 : mH} (hs : s < 5) (hR : Re (n + 1) h) (e : ∀ o k, gI g1 o k = gI (pI h 82 s (gI h 82 s + 1)) o k) (e1 : g1.1 = h.1) (e2 : ∀ o k, gR g1 o k = gR h o k) : Re n (pI (pI g1 83 0 0) 90 s (gI g1 90 s + 1)) := by
  have q3 := hR.2.2.2.1
  have X0 : Fm (fun o k => HP o k ∨ o = 82 ∨ o = 90) h g1 := Fm.rf.st e1 (fun o k _ => e2 o k) (fun o k _ hn => by rw [e, gI_pI, if_neg (fun z => hn (.inr (.inl z.1)))])
  refine rf_end hs hR ((X0.pI (.inl hp0) 0).pI (.inr (.inr rfl)) _) (fun k hk => ?_)
  have a : gI g1 90 k = gI h 90 k := by rw [e, gI_pI, if_neg (by omega)]
  have a' : gI g1 90 s = gI h 90 s := by rw [e, gI_pI, if_neg (by omega)]
  rw [gI_pI, gI_pI, gI_pI, gI_pI, if_neg (show ¬ ((90 : Nat) = 83 ∧ k = 0) by omega), if_neg (show ¬ ((82 : Nat) = 90 ∧ k = s) by omega), if_neg (show ¬ ((82 : Nat) = 83 ∧ k = 0) by omega), e 82 k, gI_pI, a, a']
  by_cases c : k = s
  · subst c
    rw [if_pos ⟨rfl, rfl⟩, if_pos ⟨rfl, rfl⟩, q3 k hk]
  · rw [if_neg (fun z => c z.2), if_neg (fun z => c z.2)]
    exact q3 k hk
end LAWU
