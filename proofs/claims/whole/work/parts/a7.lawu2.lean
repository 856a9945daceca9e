section LAWU2
variable {G : GX} {h h1 : mH} {n : Nat} {NX : mH → Prop}
/-- the settings are others now -/
theorem st_end {g : mH} (hR : Re (n + 1) h) (X : Fm (fun o k => o = 7 ∨ (o = 0 ∧ k = 16) ∨ (o = 83 ∧ k = 0) ∨ o = 87 ∨ o = 116) h g) (w : StW g 7 0) (e : ∀ k, k < 12 → gI g 87 k = gI g 7 k) (e16 : gI g 0 16 = gI h 0 16 + 1) : Re n g := by
  obtain ⟨q13, q1, q2, q3, q4, q5, q6, q7, q8, q9, q11, q12⟩ := id hR
  have U : ∀ o k, o < 116 → o ≠ 7 → o ≠ 87 → (o = 0 → k ≠ 16) → (o = 83 → k ≠ 0) → gI g o k = gI h o k := fun o k a b c d f => X.2.2 o k (by omega) (fun z => by omega)
  obtain ⟨p12, n1, n2⟩ := P12_s (fun o k ho => U o k (by omega) (by omega) (by omega) (by omega) (by omega)) e16 q12
  refine ⟨P13_c X q13, ?_, P2_c (fun o k ho => U o k (by omega) (by omega) (by omega) (by omega) (by omega)) q2, P3_c (fun o k ho => U o k (by omega) (by omega) (by omega) (by omega) (by omega)) q3, P4_c (fun o k ho => U o k (by omega) (by omega) (by omega) (by omega) (by omega)) q4, P5_c (fun o k ho => U o k (by omega) (by omega) (by omega) (by omega) (by omega)) q5, P6_c (fun o k ho => U o k (by omega) (by omega) (by omega) (by omega) (by omega)) q6, P7_c (fun o k ho => U o k (by omega) (by omega) (by omega) (by omega) (by omega)) q7, P8_n (fun o k ho => U o k (by omega) (by omega) (by omega) (by omega) (by omega)) (fun k => X.2.1 0 k (by omega)) n1 q8, P9_c (fun o k ho => U o k (by omega) (by omega) (by omega) (by omega) (by omega)) q9, P11_n n2, p12⟩
  obtain ⟨a, b, c, d, f, _, i⟩ := q1
  refine ⟨fun p hp => ?_, CR_c (U 3 5 (by omega) (by omega) (by omega) (by omega) (by omega)) (fun o k ho => U o k (by omega) (by omega) (by omega) (by omega) (by omega)) b, ?_, ?_, fun k hk => ?_, e, fun j hj => ?_⟩
  · obtain ⟨a1, a2, a3, _⟩ := a p hp
    obtain ⟨b1, b2, b3⟩ := w p hp
    unfold PnR
    rw [U (3 + 1) _ (by omega) (by omega) (by omega) (by omega) (by omega), U (3 + 2) _ (by omega) (by omega) (by omega) (by omega) (by omega), U (3 + 3) _ (by omega) (by omega) (by omega) (by omega) (by omega)]
    exact ⟨a1, a2, a3, b1, b2, b3⟩
  · rw [U 83 1 (by omega) (by omega) (by omega) (by omega) (by omega), U 3 4 (by omega) (by omega) (by omega) (by omega) (by omega)]; exact c
  · rw [U 83 2 (by omega) (by omega) (by omega) (by omega) (by omega), U 3 5 (by omega) (by omega) (by omega) (by omega) (by omega)]; exact d
  · rw [U 84 k (by omega) (by omega) (by omega) (by omega) (by omega), U 4 k (by omega) (by omega) (by omega) (by omega) (by omega), U 85 k (by omega) (by omega) (by omega) (by omega) (by omega), U 5 k (by omega) (by omega) (by omega) (by omega) (by omega), U 86 k (by omega) (by omega) (by omega) (by omega) (by omega), U 6 k (by omega) (by omega) (by omega) (by omega) (by omega)]
    exact f k hk
  · rw [U 3 5 (by omega) (by omega) (by omega) (by omega) (by omega)] at hj
    obtain ⟨x, y⟩ := i j hj
    refine ⟨?_, fun a ha => ?_⟩
    · rw [U 88 _ (by omega) (by omega) (by omega) (by omega) (by omega), U 8 _ (by omega) (by omega) (by omega) (by omega) (by omega)]; exact x
    · rw [U 88 _ (by omega) (by omega) (by omega) (by omega) (by omega), U 9 _ (by omega) (by omega) (by omega) (by omega) (by omega)]; exact y a ha
/-- holdings are others now -/
theorem hk_end {g : mH} (hR : Re (n + 1) h) (X : Fm (fun o k => (35 ≤ o ∧ o ≤ 37) ∨ (o = 33 ∧ (k = 1 ∨ k = 3 ∨ k = 5)) ∨ (o = 0 ∧ k = 16) ∨ (o = 83 ∧ (k = 0 ∨ k = 30 ∨ k = 33 ∨ k = 36)) ∨ o = 97 ∨ o = 99 ∨ o = 101 ∨ o = 116) h g) (p2 : P2 g) (p8 : P8 g) (p11 : P11 g) (p12 : P12 n g) : Re n g := by
  obtain ⟨q13, q1, q2, q3, q4, q5, q6, q7, q8, q9, q11, q12⟩ := id hR
  exact ⟨P13_c X q13, P1_c (fun o k ho => X.2.2 o k (by omega) (by omega)) q1, p2, P3_c (fun o k ho => X.2.2 o k (by omega) (by omega)) q3, P4_c (fun o k ho => X.2.2 o k (by omega) (by omega)) q4, P5_c (fun o k ho => X.2.2 o k (by omega) (by omega)) q5, P6_c (fun o k ho => X.2.2 o k (by omega) (by omega)) q6, P7_c (fun o k ho => X.2.2 o k (by omega) (by omega)) q7, p8, P9_c (fun o k ho => X.2.2 o k (by omega) (by omega)) q9, p11, p12⟩
theorem set_rg {p w v : Int32} (hp : i03 p) (hw : i02 w) (hv : 0 ≤ v.toInt ∧ v.toInt ≤ mst w) (f : StW h 7 0) {g : mH} (e : ∀ k, gI g 7 k = if k = 4 * w.toInt.toNat + p.toInt.toNat then v else gI h 7 k) : StW g 7 0 := fun q hq => by
  obtain ⟨a, b, c⟩ := f q hq
  obtain ⟨p1, p2⟩ := hp
  obtain ⟨w1, w2⟩ := hw
  have m : mst w = if w.toInt = 0 then 9 else if w.toInt = 1 then 99 else 90 := by
    unfold mst
    have e0 : w = 0 ↔ w.toInt = 0 := ⟨fun z => by rw [z]; rfl, fun z => Int32.toInt_inj.mp z⟩
    have e1 : w = 1 ↔ w.toInt = 1 := ⟨fun z => by rw [z]; rfl, fun z => Int32.toInt_inj.mp z⟩
    simp only [e0, e1]
  rw [m] at hv
  rw [e, e, e]
  unfold rg at *
  refine ⟨?_, ?_, ?_⟩
  · split
    · rw [if_pos (by omega)] at hv
      exact hv
    · exact a
  · split
    · rw [if_neg (by omega), if_pos (by omega)] at hv
      exact hv
    · exact b
  · split
    · rw [if_neg (by omega), if_neg (by omega)] at hv
      exact hv
    · exact c
theorem FR_st (f : FR h 3) : StW h 7 0 := fun p hp => (f p hp).2.2.2
theorem c_set {p w v : Int32} (hR : Re (n + 1) h) (nx : ∀ g, Re n g → NX g) : WM G jX10_set [.ref 0, .int p, .int w, .int v] h (LB G jX11_set [.ref 83, .int p, .int w, .int v] (some 1) none NX) := by
  obtain ⟨q13, q1, q2, q3, q4, q5, q6, q7, q8, q9, q11, q12⟩ := id hR
  refine mX10_set q13.1 (fun c => th_N hR rfl (fun h1 X => ?_)) (fun c1 c2 => vl (show Iv (pI h 82 1 (gI h 82 1 + 1)) from q13.1) ?_) (fun c1 c2 => vl (show Iv (pI (pI h 7 _ v) 0 16 (gI h 0 16 + 1)) from q13.1) ?_)
  · exact mX11_set (X.iv q13.1) (fun _ => thr_m (by decide) hR nx X) (fun d _ => absurd d c) (fun d _ => absurd d c)
  · refine mX11_set (show Iv (pJ (pI h 82 1 (gI h 82 1 + 1)) 116 0 _) from q13.1) (fun d => absurd c1 d) (fun _ _ => ?_) (fun _ d => absurd d c2)
    have r := rf_two (s := 1) (g1 := pJ (pI h 82 1 (gI h 82 1 + 1)) 116 0 (Int32.toInt64 (-1))) (by omega) hR (fun _ _ => rfl) rfl (fun _ _ => rfl)
    exact ok0 r.1.1 (by rw [gI_pI, if_neg (by omega), gI_pI, if_pos ⟨rfl, rfl⟩]) rfl (nx _ r)
  · generalize hpl : 4 * w.toInt.toNat + p.toInt.toNat = pl
    have p12 : pl < 12 := by have := c1.1.2; have := c1.2.2; omega
    refine mX11_set (show Iv (pJ (pI (pI h 7 pl v) 0 16 (gI h 0 16 + 1)) 116 0 _) from q13.1) (fun d => absurd c1 d) (fun _ d => absurd c2 d) (fun _ _ => ?_)
    rw [hpl]
    have e7 : gI (pJ (pI (pI h 7 pl v) 0 16 (gI h 0 16 + 1)) 116 0 (gI h 7 pl).toInt64) 87 pl = gI h 7 pl := by
      show gI (pI (pI h 7 pl v) 0 16 (gI h 0 16 + 1)) 87 pl = _
      rw [gI_pI, if_neg (by omega), gI_pI, if_neg (by omega)]
      exact q1.2.2.2.2.2.1 pl p12
    rw [e7]
    generalize hg : pI (pI (pJ (pI (pI h 7 pl v) 0 16 (gI h 0 16 + 1)) 116 0 (gI h 7 pl).toInt64) 83 0 0) 87 pl v = g
    have Y : Fm (fun o k => o = 7 ∨ (o = 0 ∧ k = 16) ∨ (o = 83 ∧ k = 0) ∨ o = 87 ∨ o = 116) h g := by
      rw [← hg]
      exact ((((Fm.rf.pI (.inl rfl) _).pI (.inr (.inl ⟨rfl, rfl⟩)) _).pJ 116 0 _).pI (.inr (.inr (.inl ⟨rfl, rfl⟩))) _).pI (.inr (.inr (.inr (.inl rfl)))) _
    have g7 : ∀ k, gI g 7 k = if k = pl then v else gI h 7 k := fun k => by
      rw [← hg, gI_pI, if_neg (by omega), gI_pI, if_neg (by omega)]
      show gI (pI (pI h 7 pl v) 0 16 (gI h 0 16 + 1)) 7 k = _
      rw [gI_pI, if_neg (by omega), gI_pI]
      by_cases c : k = pl
      · rw [if_pos ⟨rfl, c⟩, if_pos c]
      · rw [if_neg (fun z => c z.2), if_neg c]
    have g87 : ∀ k, gI g 87 k = if k = pl then v else gI h 87 k := fun k => by
      rw [← hg, gI_pI]
      by_cases c : k = pl
      · rw [if_pos ⟨rfl, c⟩, if_pos c]
      · rw [if_neg (fun z => c z.2), if_neg c, gI_pI, if_neg (by omega)]
        show gI (pI (pI h 7 pl v) 0 16 (gI h 0 16 + 1)) 87 k = _
        rw [gI_pI, if_neg (by omega), gI_pI, if_neg (by omega)]
    have g16 : gI g 0 16 = gI h 0 16 + 1 := by
      rw [← hg, gI_pI, if_neg (by omega), gI_pI, if_neg (by omega)]
      show gI (pI (pI h 7 pl v) 0 16 (gI h 0 16 + 1)) 0 16 = _
      rw [gI_pI, if_pos ⟨rfl, rfl⟩]
    have g0 : gI g 83 0 = 0 := by rw [← hg, gI_pI, if_neg (by omega), gI_pI, if_pos ⟨rfl, rfl⟩]
    refine ok0 (Y.iv q13.1) g0 (by rw [← hg]; rfl) (nx _ (st_end hR Y (set_rg c1.1 c1.2 c2 (FR_st q1.1) (fun k => by rw [hpl]; exact g7 k)) (fun k hk => ?_) g16))
    rw [g7, g87]
    split
    · rfl
    · exact q1.2.2.2.2.2.1 k hk
def LV (G : GX) (jm : MX) (As : List Value) (NX : mH → Prop) : mO → mH → Prop := HpV (some 1) (fun o h1 => ∃ kk, o = .inl (some (.int kk)) ∧ Iv h1 ∧ WM G jm As h1 (fun o2 h2 => o2 = .inl none ∧ Iv h2 ∧ gI h2 83 0 = kk ∧ NX h2))
theorem c_take {v : Int32} (hR : Re (n + 1) h) (nx : ∀ g, Re n g → NX g) : WM G jX10_take [.ref 0, .int v] h (LV G jX11_take [.ref 83, .int v] NX) := by
  obtain ⟨q13, q1, q2, q3, q4, q5, q6, q7, q8, q9, q11, q12⟩ := id hR
  obtain ⟨np, e1, e2, l8, st⟩ := q2.1.np
  have thr : ∀ h1, Fm Nf h h1 → ¬ pk h v → LV G jX11_take [.ref 83, .int v] NX (.inr eN) h1 := fun h1 X c => by
    have b := X.sb Nf_82 q2
    have Y : Fm HP h (pI (pI h1 83 0 0) 83 0 1) := ((X.wk (fun _ _ z => z.elim)).pI hp0 _).pI hp0 _
    exact ⟨1, ⟨rfl, rfl⟩, 1, rfl, X.iv q13.1, mX11_take (X.iv q13.1) (by rw [b.1.1]; omega) (fun _ => ⟨rfl, Y.iv q13.1, by rw [gI_pI, if_pos ⟨rfl, rfl⟩], nx _ (Re_q hR Y)⟩) (fun d => absurd (b.pk.mp d) c)⟩
  have rm := q13.2
  refine mX10_take q13.1 (by omega) (fun c => ⟨⟨by omega, by omega⟩, thr h Fm.rf c, fun m hm => thr _ (Fm.aN q13.1 hm) c⟩) (fun c h1 S E => ⟨(S.iv q13.1 : Iv (pI h1 0 16 (gI h 0 16 + 1))), 0, rfl, (S.iv q13.1 : Iv (pI h1 0 16 (gI h 0 16 + 1))), ?_⟩)
  have X : Fm (fun o k => o = 7 ∨ (o = 0 ∧ k = 16)) h (pI h1 0 16 (gI h 0 16 + 1)) := (Fm.rf.trS S (fun o k z => .inl (by simpa using z))).pI (.inr ⟨rfl, rfl⟩) _
  have b := X.sb (fun o k z => by omega) q2
  have vl8 : v.toInt.toNat < np := by have := c.1; have := c.2; omega
  refine mX11_take (X.iv q13.1) (by rw [b.1.1]; omega) (fun d => absurd (b.pk.mpr c) d) (fun _ h2 S2 E2 => ?_)
  have Y : Fm (fun o k => o = 7 ∨ (o = 0 ∧ k = 16) ∨ (o = 83 ∧ k = 0) ∨ o = 87 ∨ o = 116) h h2 := ((X.wk (fun _ _ z => by omega)).pI (.inr (.inr (.inl ⟨rfl, rfl⟩))) 0).trS S2 (fun o k z => .inr (.inr (.inr (.inl (by simpa using z)))))
  have g7 : ∀ k, k < 12 → gI h2 7 k = gI h 35 (12 * v.toInt.toNat + k) := fun k hk => by
    rw [S2.gI (o := 7) rfl, gI_pI, if_neg (by omega), gI_pI, if_neg (by omega)]
    exact E k hk
  have g87 : ∀ k, k < 12 → gI h2 87 k = gI h 35 (12 * v.toInt.toNat + k) := fun k hk => by
    rw [E2 k hk]
    exact b.2.1 _ (by omega)
  refine ⟨rfl, Y.iv q13.1, by rw [S2.gI (o := 83) rfl, gI_pI, if_pos ⟨rfl, rfl⟩], nx _ (st_end hR Y (fun p hp => ?_) (fun k hk => by rw [g7 k hk, g87 k hk]) ?_)⟩
  · rw [g7 _ (by omega), g7 _ (by omega), g7 _ (by omega), Nat.zero_add, Nat.zero_add, Nat.zero_add]
    exact st _ vl8 p hp
  · rw [S2.gI (o := 0) rfl, gI_pI, if_neg (by omega), gI_pI, if_pos ⟨rfl, rfl⟩]
end LAWU2
