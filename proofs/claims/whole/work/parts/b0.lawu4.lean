section LAWU4
variable {G : GX} {h h1 : mH} {n : Nat} {NX : mH → Prop}
theorem c_feed {a b c d e : Int32} (hR : Re (n + 1) h) (nx : ∀ g, Re n g → NX g) : WM G jX10_feed [.ref 0, .int a, .int b, .int c, .int d, .int e] h (LA G jX11_feed [.ref 83, .int a, .int b, .int c, .int d, .int e] NX) := by
  obtain ⟨q13, q1, q2, q3, q4, q5, q6, q7, q8, q9, q11, q12⟩ := id hR
  obtain ⟨l, z, l4, e1, e2, zc, zm⟩ := q4
  refine mX10_feed2 q13.1 e1 l4 (fun w => ⟨_, rfl, q13.1, ?_⟩) (fun w g1 C1 f1 d1 o1 => ⟨_, rfl, C1.iv q13.1, ?_⟩)
  · have Y := (Fm.rf (S := HP) (h := h)).pI hp0 0
    exact mX11_feed2 q13.1 e2 l4 (fun _ => ⟨rfl, Y.iv q13.1, nx _ (Re_q hR Y)⟩) (fun y => by omega)
  · have X : Fm (fun o k => o = 2 ∨ (o = 1 ∧ k = 1)) h g1 := Fm.rf.trC C1 (fun o k y => by unfold lyS at y; simpa using y)
    refine mX11_feed2 (C1.iv q13.1) (by rw [X.2.2 83 9 (by omega) (by omega)]; exact e2) l4 (fun y => by omega) (fun _ g2 C2 f2 d2 o2 => ?_)
    have Y : Fm (fun o k => o = 2 ∨ (o = 1 ∧ k = 1) ∨ o = 89 ∨ (o = 83 ∧ (k = 0 ∨ k = 9))) h g2 := ((X.wk (fun _ _ y => by omega)).pI (by omega) 0).trC C2 (fun o k y => by unfold lmS at y; simp at y; omega)
    have U2 : ∀ k, gI g2 2 k = gI g1 2 k := fun k => by rw [C2.2.2 2 k rfl, gI_pI, if_neg (by omega)]
    have z89 : ∀ k, gI g1 89 k = gI h 89 k := fun k => X.2.2 89 k (by omega) (by omega)
    have cell : ∀ i, i < 400 → byR (gI g2 2 i) (gI g2 89 i) := fun i hi => by
      by_cases y : l ≤ i ∧ i < l + 20
      · obtain ⟨j, rfl⟩ : ∃ j, i = l + j := ⟨i - l, by omega⟩
        rw [U2, d1 j (by omega), d2 j (by omega)]
        exact by_rel _ _ (by omega)
      · rw [U2, o1 i (by omega), o2 i (by omega), z89 i]
        exact ⟨z i, (zc i hi).2.1, (zc i hi).2.2, (zc i hi).1, (zm i hi).1⟩
    refine ⟨rfl, Y.iv q13.1, nx _ ⟨P13_c Y q13, P1_c (fun o k ho => Y.2.2 o k (by omega) (by omega)) q1, P2_c (fun o k ho => Y.2.2 o k (by omega) (by omega)) q2, P3_c (fun o k ho => Y.2.2 o k (by omega) (by omega)) q3, ⟨l + 20, fun i => (gI g2 2 i).toInt, by omega, ?_, f2, fun i hi => ?_, fun i hi => ?_⟩, P5_c (fun o k ho => Y.2.2 o k (by omega) (by omega)) q5, P6_c (fun o k ho => Y.2.2 o k (by omega) (by omega)) q6, P7_c (fun o k ho => Y.2.2 o k (by omega) (by omega)) q7, P8_c (fun o k ho => Y.2.2 o k (by omega) (by omega)) (fun k => Y.2.1 0 k (by omega)) q8, P9_c (fun o k ho => Y.2.2 o k (by omega) (by omega)) q9, P11_c (fun o k ho => Y.2.2 o k (by omega) (by omega)) q11, P12_c (fun o k ho => Y.2.2 o k (by omega) (by omega)) q12⟩⟩
    · rw [C2.2.2 1 1 rfl, gI_pI, if_neg (by omega)]; exact f1
    · obtain ⟨x, x1, x2, x3, x4⟩ := cell i hi
      refine ⟨(iI_self _).symm, ?_, ?_⟩
      · show -128 ≤ (gI g2 2 i).toInt
        rw [x3, iI_toInt ⟨by omega, by omega⟩]; exact x1
      · show (gI g2 2 i).toInt ≤ 127
        rw [x3, iI_toInt ⟨by omega, by omega⟩]; exact x2
    · obtain ⟨x, x1, x2, x3, x4⟩ := cell i hi
      have ex : (gI g2 2 i).toInt = x := by rw [x3, iI_toInt ⟨by omega, by omega⟩]
      simp only
      rw [ex]
      exact ⟨x4, x1, x2⟩
theorem c_evening {v : Int32} (hR : Re (n + 1) h) (nx : ∀ g, Re n g → NX g) : WM G jX10_evening [.ref 0, .int v] h (LB G jX11_evening [.ref 83, .int v] none (some 1) NX) := by
  obtain ⟨q13, q1, q2, q3, q4, q5, q6, q7, q8, q9, q11, q12⟩ := id hR
  obtain ⟨np, e1, e2, l8, st⟩ := q2.1.np
  have p7 : pnR h 7 0 := fun p hp => (FR_st q1.1 p hp).1
  have p35 : ∀ i, i < np → pnR h 35 (12 * i) := fun i hi p hp => (st i hi p hp).1
  have m7 : ∀ {g : mH}, Sa h g → pnR g 87 0 := fun s p hp => by rw [s.2.1 _ (by omega)]; exact p7 p hp
  have m35 : ∀ {g : mH}, Sb h g → ∀ i, i < np → pnR g 97 (12 * i) := fun b i hi p hp => by rw [b.2.1 _ (by omega)]; exact p35 i hi p hp
  refine mX10_evening q13.1 e1 l8 p7 p35 (fun c => th_I hR rfl (fun h1 X => ?_)) (fun g1 c ee t ok S o75 l1 t1 or1 fs => vl (S.iv q13.1) ?_)
  · have s := X.sa Nf_82 q1
    have b := X.sb Nf_82 q2
    exact mX11_evening (X.iv q13.1) (by rw [b.1.1]; exact e1) l8 (m7 s) (m35 b) (fun _ => thr_m (by decide) hR nx X) (fun _ _ _ _ d => absurd d c)
  · have X := ((Fm.rf (S := fun o _ => 75 ≤ o ∧ o ≤ 79) (h := h)).trS S (fun o k y => by unfold evS at y; simp at y; omega)).pJ 116 0 (iI (c : Nat)).toInt64
    have s := X.sa (fun o k y => by omega) q1
    have b := X.sb (fun o k y => by omega) q2
    refine mX11_evening (X.iv q13.1) (by rw [b.1.1]; exact e1) l8 (m7 s) (m35 b) (fun d => absurd ok d) (fun g2 c2 ee2 tt2 _ C2 g0 l2 t2 or2 fs2 => ?_)
    rw [Sb.dE s b l8] at fs2
    obtain ⟨u1, u2, u3⟩ := fsb_u fs fs2
    have pos : 0 < pc v.toInt.toNat := by have := fs.2.1; omega
    have p8 := pc_8 v.toInt.toNat
    generalize pc v.toInt.toNat = m at *
    have Y : Fm (fun o k => (75 ≤ o ∧ o ≤ 79) ∨ (o = 83 ∧ (k = 0 ∨ k = 40 ∨ k = 41)) ∨ o = 102 ∨ o = 103 ∨ o = 116) h g2 := (X.wk (fun _ _ y => by omega)).trC C2 (fun o k y => by unfold emS at y; simp at y; omega)
    have U : ∀ o k, o ≤ 82 → gI g2 o k = gI g1 o k := fun o k ho => by
      rw [C2.2.2 o k (by unfold emS; simp; omega)]
      rfl
    rw [← u1]
    refine ok0 (Y.iv q13.1) g0 (by show g2.2.2.1 116 0 = _; rw [C2.2.1]; rfl) (nx _ ⟨P13_c Y q13, P1_c (fun o k ho => Y.2.2 o k (by omega) (by omega)) q1, P2_c (fun o k ho => Y.2.2 o k (by omega) (by omega)) q2, P3_c (fun o k ho => Y.2.2 o k (by omega) (by omega)) q3, P4_c (fun o k ho => Y.2.2 o k (by omega) (by omega)) q4, P5_c (fun o k ho => Y.2.2 o k (by omega) (by omega)) q5, .inr ⟨m, pos, p8, ?_, l2, ?_, fun i hi => ?_⟩, P7_c (fun o k ho => Y.2.2 o k (by omega) (by omega)) q7, P8_c (fun o k ho => Y.2.2 o k (by omega) (by omega)) (fun k => Y.2.1 0 k (by omega)) q8, P9_c (fun o k ho => Y.2.2 o k (by omega) (by omega)) q9, P11_c (fun o k ho => Y.2.2 o k (by omega) (by omega)) q11, P12_c (fun o k ho => Y.2.2 o k (by omega) (by omega)) q12⟩)
    · rw [U 75 1 (by omega)]; exact l1
    · rw [U 75 2 (by omega), t1, t2, u3]
    · rw [U 76 i (by omega), or1 i hi, or2 i hi, u2 i hi]
theorem Hk_cp {g : mH} {c a1 a2 a3 c' b1 b2 b3 : Nat} (p : Hk h c a1 a2 a3) (x1 : gI g c' 1 = gI h c 1) (x3 : gI g c' 3 = gI h c 3) (x5 : gI g c' 5 = gI h c 5) (y1 : ∀ k, k < 96 → gI g b1 k = gI h a1 k) (y2 : ∀ k, k < 18 → gI g b2 k = gI h a2 k) (y3 : ∀ k, k < 10 → gI g b3 k = gI h a3 k) : Hk g c' b1 b2 b3 := by
  obtain ⟨np, nq, nb, f1, f2, f3, f4, f5, f6, f7⟩ := p
  have q6 := f6.1
  have b10 := f7.1
  refine ⟨np, nq, nb, by rw [x1]; exact f1, by rw [x3]; exact f2, by rw [x5]; exact f3, f4, fun i hi p hp => ?_, ⟨q6, fun i hi => ⟨?_, fun ax hx => ?_⟩⟩, ⟨b10, fun k hk => ?_⟩⟩
  · rw [y1 _ (by omega), y1 _ (by omega), y1 _ (by omega)]; exact f5 i hi p hp
  · rw [y2 _ (by omega)]; exact (f6.2 i hi).1
  · rw [y2 _ (by omega)]; exact (f6.2 i hi).2 ax hx
  · rw [y3 _ (by omega)]; exact f7.2 k hk
def LI (G : GX) (jm : MX) (As : List Value) (NX : mH → Prop) : mO → mH → Prop := fun o h1 => o = .inl none ∧ Iv h1 ∧ WM G jm As h1 (fun o2 h2 => o2 = .inl none ∧ Iv h2 ∧ NX h2)
theorem c_image (hR : Re (n + 1) h) (nx : ∀ g, Re n g → NX g) : WM G jX10_image [.ref 0] h (LI G jX11_image [.ref 83] NX) := by
  obtain ⟨q13, q1, q2, q3, q4, q5, q6, q7, q8, q9, q11, q12⟩ := id hR
  refine mX10_image q13.1 (fun g1 C1 a1 a2 a3 a4 a5 => ⟨rfl, C1.iv q13.1, ?_⟩)
  obtain ⟨a51, a53, a55, a56⟩ := a5
  have X : Fm (fun o k => o = 34 ∨ (38 ≤ o ∧ o ≤ 42) ∨ (o = 0 ∧ k = 6)) h g1 := Fm.rf.trC C1 (fun o k y => by unfold imS mh at y; simp at y; omega)
  have M : ∀ o k, 83 ≤ o → o < 117 → gI g1 o k = gI h o k := fun o k y1 y2 => X.2.2 o k y2 (by omega)
  refine mX11_image (C1.iv q13.1) (fun g2 C2 b1 b2 b3 b4 b5 => ?_)
  obtain ⟨b51, b53, b55, b56, b50⟩ := b5
  have Y : Fm (fun o k => o = 34 ∨ (38 ≤ o ∧ o ≤ 42) ∨ (o = 0 ∧ k = 6) ∨ (o = 83 ∧ (k = 0 ∨ k = 55)) ∨ (111 ≤ o ∧ o ≤ 115)) h g2 := (X.wk (fun _ _ y => by omega)).trC C2 (fun o k y => by unfold imM at y; simp at y; omega)
  have U : ∀ o k, o ≤ 82 → gI g2 o k = gI g1 o k := fun o k ho => C2.2.2 o k (by unfold imM; simp; omega)
  obtain ⟨⟨d1, d2, d3⟩, c3, c4, c5⟩ := q2.2
  refine ⟨rfl, Y.iv q13.1, nx _ ⟨P13_c Y q13, P1_c (fun o k ho => Y.2.2 o k (by omega) (by omega)) q1, P2_c (fun o k ho => Y.2.2 o k (by omega) (by omega)) q2, P3_c (fun o k ho => Y.2.2 o k (by omega) (by omega)) q3, P4_c (fun o k ho => Y.2.2 o k (by omega) (by omega)) q4, P5_c (fun o k ho => Y.2.2 o k (by omega) (by omega)) q5, P6_c (fun o k ho => Y.2.2 o k (by omega) (by omega)) q6, ⟨?_, .inr ⟨fun p hp => ?_, Hk_cp q2.1 ?_ ?_ ?_ (fun k hk => ?_) (fun k hk => ?_) (fun k hk => ?_), ⟨?_, ?_, ?_⟩, fun k hk => ?_, fun k hk => ?_, fun k hk => ?_, fun k hk => ?_⟩⟩, P8_c (fun o k ho => Y.2.2 o k (by omega) (by omega)) (fun k => Y.2.1 0 k (by omega)) q8, P9_c (fun o k ho => Y.2.2 o k (by omega) (by omega)) q9, P11_c (fun o k ho => Y.2.2 o k (by omega) (by omega)) q11, P12_c (fun o k ho => Y.2.2 o k (by omega) (by omega)) q12⟩⟩
  · rw [b56, U 0 6 (by omega), a56]
  · rw [U 39 _ (by omega), U 39 _ (by omega), U 39 _ (by omega), a1 _ (by omega), a1 _ (by omega), a1 _ (by omega)]
    exact FR_st q1.1 p hp
  · rw [U 38 1 (by omega), a51]
  · rw [U 38 3 (by omega), a53]
  · rw [U 38 5 (by omega), a55]
  · rw [U 40 k (by omega), a2 k hk]
  · rw [U 41 k (by omega), a3 k hk]
  · rw [U 42 k (by omega), a4 k hk]
  · rw [b51, M 83 30 (by omega) (by omega), U 38 1 (by omega), a51]; exact d1
  · rw [b53, M 83 33 (by omega) (by omega), U 38 3 (by omega), a53]; exact d2
  · rw [b55, M 83 36 (by omega) (by omega), U 38 5 (by omega), a55]; exact d3
  · rw [b1 k hk, M 87 k (by omega) (by omega), U 39 k (by omega), a1 k hk]; exact q1.2.2.2.2.2.1 k hk
  · rw [b2 k hk, M 97 k (by omega) (by omega), U 40 k (by omega), a2 k hk]; exact c3 k hk
  · rw [b3 k hk, M 99 k (by omega) (by omega), U 41 k (by omega), a3 k hk]; exact c4 k hk
  · rw [b4 k hk, M 101 k (by omega) (by omega), U 42 k (by omega), a4 k hk]; exact c5 k hk
theorem c_restore (hR : Re (n + 1) h) (nx : ∀ g, Re n g → NX g) : WM G jX10_restore [.ref 0] h (LA G jX11_restore [.ref 83] NX) := by
  obtain ⟨q13, q1, q2, q3, q4, q5, q6, q7, q8, q9, q11, q12⟩ := id hR
  obtain ⟨fl, im⟩ := id q7
  refine mX10_restore q13.1 (fun z => ⟨_, rfl, q13.1, ?_⟩) (fun z g1 C1 a1 a2 a3 a4 a5 => ⟨_, rfl, C1.iv q13.1, ?_⟩)
  · have Y := (Fm.rf (S := HP) (h := h)).pI hp0 0
    exact mX11_restore q13.1 (fun _ => ⟨rfl, Y.iv q13.1, nx _ (Re_q hR Y)⟩) (fun y => absurd (fl.trans z) y)
  · obtain ⟨a51, a53, a55, a56⟩ := a5
    rcases im with im | ⟨s39, hk, ⟨i1, i3, i5⟩, r1, r2, r3, r4⟩
    · exact absurd im z
    · have X : Fm (fun o k => o = 7 ∨ (33 ≤ o ∧ o ≤ 37) ∨ (o = 0 ∧ k = 16)) h g1 := Fm.rf.trC C1 (fun o k y => by unfold reS mh at y; simp at y; omega)
      have M : ∀ o k, 83 ≤ o → o < 117 → gI g1 o k = gI h o k := fun o k y1 y2 => X.2.2 o k y2 (by omega)
      refine mX11_restore (C1.iv q13.1) (fun y => absurd (by rw [M 83 55 (by omega) (by omega), fl] at y; exact y) z) (fun _ g2 C2 b1 b2 b3 b4 b5 => ?_)
      obtain ⟨b51, b53, b55, b50⟩ := b5
      have Y : Fm (fun o k => o = 7 ∨ (33 ≤ o ∧ o ≤ 37) ∨ (o = 0 ∧ k = 16) ∨ (o = 83 ∧ (k = 0 ∨ k = 30 ∨ k = 33 ∨ k = 36)) ∨ o = 87 ∨ o = 97 ∨ o = 99 ∨ o = 101) h g2 := (X.wk (fun _ _ y => by omega)).trC C2 (fun o k y => by unfold reM at y; simp at y; omega)
      have U : ∀ o k, o ≤ 82 → gI g2 o k = gI g1 o k := fun o k ho => C2.2.2 o k (by unfold reM; simp; omega)
      have e16 : gI g2 0 16 = gI h 0 16 + 1 := by rw [U 0 16 (by omega)]; exact a56
      obtain ⟨p12, n1, n2⟩ := P12_s (fun o k ho => Y.2.2 o k (by omega) (by omega)) e16 q12
      have g7 : ∀ k, k < 12 → gI g2 7 k = gI h 39 k := fun k hk => by rw [U 7 k (by omega), a1 k hk]
      refine ⟨rfl, Y.iv q13.1, nx _ ⟨P13_c Y q13, ?_, ⟨Hk_cp hk ?_ ?_ ?_ (fun k hk => ?_) (fun k hk => ?_) (fun k hk => ?_), ⟨?_, ?_, ?_⟩, fun k hk => ?_, fun k hk => ?_, fun k hk => ?_⟩, P3_c (fun o k ho => Y.2.2 o k (by omega) (by omega)) q3, P4_c (fun o k ho => Y.2.2 o k (by omega) (by omega)) q4, P5_c (fun o k ho => Y.2.2 o k (by omega) (by omega)) q5, P6_c (fun o k ho => Y.2.2 o k (by omega) (by omega)) q6, P7_c (fun o k ho => Y.2.2 o k (by omega) (by omega)) q7, P8_n (fun o k ho => Y.2.2 o k (by omega) (by omega)) (fun k => Y.2.1 0 k (by omega)) n1 q8, P9_c (fun o k ho => Y.2.2 o k (by omega) (by omega)) q9, P11_n n2, p12⟩⟩
      · obtain ⟨a, b, c, d, f, _, i⟩ := q1
        refine ⟨fun p hp => ?_, CR_c (Y.2.2 3 5 (by omega) (by omega)) (fun o k ho => Y.2.2 o k (by omega) (by omega)) b, ?_, ?_, fun k hk => ?_, fun k hk => ?_, fun j hj => ?_⟩
        · obtain ⟨x1, x2, x3, _⟩ := a p hp
          obtain ⟨y1, y2, y3⟩ := s39 p hp
          unfold PnR
          rw [Y.2.2 (3 + 1) _ (by omega) (by omega), Y.2.2 (3 + 2) _ (by omega) (by omega), Y.2.2 (3 + 3) _ (by omega) (by omega), g7 _ (by omega), g7 _ (by omega), g7 _ (by omega)]
          exact ⟨x1, x2, x3, y1, y2, y3⟩
        · rw [Y.2.2 83 1 (by omega) (by omega), Y.2.2 3 4 (by omega) (by omega)]; exact c
        · rw [Y.2.2 83 2 (by omega) (by omega), Y.2.2 3 5 (by omega) (by omega)]; exact d
        · rw [Y.2.2 84 k (by omega) (by omega), Y.2.2 4 k (by omega) (by omega), Y.2.2 85 k (by omega) (by omega), Y.2.2 5 k (by omega) (by omega), Y.2.2 86 k (by omega) (by omega), Y.2.2 6 k (by omega) (by omega)]
          exact f k hk
        · rw [b1 k hk, M 112 k (by omega) (by omega), g7 k hk]; exact r1 k hk
        · rw [Y.2.2 3 5 (by omega) (by omega)] at hj
          obtain ⟨x, y⟩ := i j hj
          exact ⟨by rw [Y.2.2 88 _ (by omega) (by omega), Y.2.2 8 _ (by omega) (by omega)]; exact x, fun a ha => by rw [Y.2.2 88 _ (by omega) (by omega), Y.2.2 9 _ (by omega) (by omega)]; exact y a ha⟩
      · rw [U 33 1 (by omega), a51]
      · rw [U 33 3 (by omega), a53]
      · rw [U 33 5 (by omega), a55]
      · rw [U 35 k (by omega), a2 k hk]
      · rw [U 36 k (by omega), a3 k hk]
      · rw [U 37 k (by omega), a4 k hk]
      · rw [b51, M 111 0 (by omega) (by omega), U 33 1 (by omega), a51]; exact i1
      · rw [b53, M 111 1 (by omega) (by omega), U 33 3 (by omega), a53]; exact i3
      · rw [b55, M 111 2 (by omega) (by omega), U 33 5 (by omega), a55]; exact i5
      · rw [b2 k hk, M 113 k (by omega) (by omega), U 35 k (by omega), a2 k hk]; exact r2 k hk
      · rw [b3 k hk, M 114 k (by omega) (by omega), U 36 k (by omega), a3 k hk]; exact r3 k hk
      · rw [b4 k hk, M 115 k (by omega) (by omega), U 37 k (by omega), a4 k hk]; exact r4 k hk
end LAWU4
