section LAWQ
variable {G : GX} {h h1 : mH} {n : Nat} {NX : mH → Prop}
/-- behind the model's call: it answers, and tells as much as the class did -/
def LM (kk : Int32) (NX : mH → Prop) : mO → mH → Prop := fun o2 h2 => ∃ b : Int32, o2 = .inl (some (.int b)) ∧ Iv h2 ∧ gI h2 83 0 = kk ∧ (kk = 0 → gJ h2 116 0 = b.toInt64) ∧ NX h2
def LB (G : GX) (jm : MX) (As : List Value) (cN cI : Option Int32) (NX : mH → Prop) : mO → mH → Prop := HpQ cN cI (fun o h1 => ∃ kk, o = .inl (some (.int kk)) ∧ Iv h1 ∧ WM G jm As h1 (LM kk NX))
def LA (G : GX) (jm : MX) (As : List Value) (NX : mH → Prop) : mO → mH → Prop := fun o h1 => ∃ r : Int32, o = .inl (some (.int r)) ∧ Iv h1 ∧ WM G jm As h1 (fun o2 h2 => o2 = .inl (some (.int r)) ∧ Iv h2 ∧ NX h2)
def Nf (_o _k : Nat) : Prop := False
theorem th_N {jm : MX} {As : List Value} {cN cI : Option Int32} {K : Int32} (hR : Re (n + 1) h) (e : cN = some K) (k : ∀ h1, Fm Nf h h1 → WM G jm As h1 (LM K NX)) : Th eN h (LB G jm As cN cI NX) := by
  obtain ⟨⟨hi, r1, r2⟩, _⟩ := hR
  have go : ∀ h1, Fm Nf h h1 → LB G jm As cN cI NX (.inr eN) h1 := fun h1 X => ⟨K, .inl ⟨rfl, e⟩, K, rfl, X.iv hi, k h1 X⟩
  exact ⟨⟨by omega, by omega⟩, go h Fm.rf, fun m hm => go _ (Fm.aN hi hm)⟩
theorem th_I {jm : MX} {As : List Value} {cN cI : Option Int32} {K : Int32} (hR : Re (n + 1) h) (e : cI = some K) (k : ∀ h1, Fm Nf h h1 → WM G jm As h1 (LM K NX)) : Th eI h (LB G jm As cN cI NX) := by
  obtain ⟨⟨hi, r1, r2⟩, _⟩ := hR
  have go : ∀ h1, Fm Nf h h1 → LB G jm As cN cI NX (.inr eI) h1 := fun h1 X => ⟨K, .inr ⟨rfl, e⟩, K, rfl, X.iv hi, k h1 X⟩
  exact ⟨⟨by omega, by omega⟩, go h Fm.rf, fun m hm => go _ (Fm.aN hi hm)⟩
theorem vl {jm : MX} {As : List Value} {cN cI : Option Int32} {r : Int32} (hi : Iv h1) (k : WM G jm As (pJ h1 116 0 r.toInt64) (LM 0 NX)) : LB G jm As cN cI NX (.inl (some (.int r))) h1 := ⟨hi, 0, rfl, hi, k⟩
theorem hp0 : HP 83 0 := by unfold HP; omega
theorem thr_m {K b : Int32} (hK : K ≠ 0) (hR : Re (n + 1) h) (nx : ∀ g, Re n g → NX g) (X : Fm Nf h h1) : LM K NX (.inl (some (.int b))) (pI (pI h1 83 0 0) 83 0 K) := by
  have Y : Fm HP h (pI (pI h1 83 0 0) 83 0 K) := ((X.wk (fun _ _ z => z.elim)).pI hp0 _).pI hp0 _
  exact ⟨b, rfl, Y.iv hR.1.1, by rw [gI_pI, if_pos ⟨rfl, rfl⟩], fun z => absurd z hK, nx _ (Re_q hR Y)⟩
theorem ok0 {g : mH} {r : Int32} (hi : Iv g) (h0 : gI g 83 0 = 0) (hj : gJ g 116 0 = r.toInt64) (k : NX g) : LM 0 NX (.inl (some (.int r))) g := ⟨r, rfl, hi, h0, fun _ => hj, k⟩
/-- the class's own help -/
def Hc (o _k : Nat) : Prop := (10 ≤ o ∧ o ≤ 32) ∨ (67 ≤ o ∧ o ≤ 74) ∨ (77 ≤ o ∧ o ≤ 79) ∨ o = 81
def Hf (o k : Nat) : Prop := HP o k ∨ (10 ≤ o ∧ o ≤ 12) ∨ (20 ≤ o ∧ o ≤ 22)
theorem Hc_f {o k : Nat} (z : Hc o k) : Hf o k := by
  unfold Hc at z
  unfold Hf HP
  omega
theorem Hp_f {o k : Nat} (z : HP o k) : Hf o k := .inl z
theorem Fm.sa {S : Nat → Nat → Prop} (X : Fm S h h1) (hS : ∀ o k, S o k → o ≤ 82) (p : P1 h) : Sa h h1 := Sa_of (fun o k ho => X.2.2 o k (by omega) (fun z => by have := hS o k z; omega)) p
theorem Fm.sb {S : Nat → Nat → Prop} (X : Fm S h h1) (hS : ∀ o k, S o k → o ≤ 82) (p : P2 h) : Sb h h1 := Sb_of (fun o k ho => X.2.2 o k (by omega) (fun z => by have := hS o k z; omega)) p
theorem Hc_82 : ∀ o k, Hc o k → o ≤ 82 := fun o k z => by unfold Hc at z; omega
theorem Nf_82 : ∀ o k, Nf o k → o ≤ 82 := fun _ _ z => z.elim
theorem Fm.sc {S : Nat → Nat → Prop} {a b c : mH} (X : Fm S a b) (hs : sc2 b c) (h0 : S 83 0) (h9 : ∀ k, S 96 k) : Fm S a c :=
  X.st hs.1.1 (fun o k _ => by show c.2.2.2 o k = b.2.2.2 o k; rw [hs.1.2.1]) (fun o k _ hn => by
    by_cases c8 : o = 83
    · subst c8
      exact hs.2 k (fun z => hn (by rw [z]; exact h0))
    · exact hs.1.gI (by
        unfold ms
        have : o ≠ 96 := fun z => hn (by rw [z]; exact h9 k)
        simp [c8, this]) k)
theorem cr3_c {o k : Nat} (z : cr 3 o = true) : Hc o k := by unfold cr at z; simp at z; unfold Hc; omega
theorem Fm.cr3 (S : Sm (cr 3) h h1) : Fm Hc h h1 := Fm.rf.trS S (fun _ _ z => cr3_c z)
theorem fd13 (hR : Re (n + 1) h) (S : Sm (cr 3) h h1) : FdOk h1 13 := FdOk_r (fun o k ho => S.gI (by unfold cr; simp; omega) k) hR.2.2.2.2.2.2.2.2.2.1.2.1
theorem c_swing {p t : Int32} (hR : Re (n + 1) h) (nx : ∀ g, Re n g → NX g) : WM G jX10_swing [.ref 0, .int p, .int t] h (LB G jX11_swing [.ref 83, .int p, .int t] (some 1) (some 2) NX) := by
  obtain ⟨q13, q1, q2, q3, q4, q5, q6, q7, q8, q9, q11, q12⟩ := id hR
  refine mX10_swing q13.1 q1.1 q9.1 (fun c => th_N hR rfl (fun h1 X => ?_)) (fun c1 c2 => th_I hR rfl (fun h1 X => ?_)) (fun h1 c1 c2 S F => vl (S.iv q13.1) ?_)
  · have s := X.sa Nf_82 q1
    exact mX11_swing (X.iv q13.1) (s.mr q1.1) (fun _ => thr_m (by decide) hR nx X) (fun d _ => absurd d c) (fun d _ => absurd d c)
  · have s := X.sa Nf_82 q1
    exact mX11_swing (X.iv q13.1) (s.mr q1.1) (fun d => absurd c1 d) (fun _ _ => thr_m (by decide) hR nx X) (fun _ d => absurd d c2)
  · have X := (Fm.cr3 S).pJ 116 0 (iI (atV h 4 5 6 7 0 p.toInt.toNat t.toInt.toNat)).toInt64
    have s := X.sa Hc_82 q1
    refine mX11_swing (X.iv q13.1) (s.mr q1.1) (fun d => absurd c1 d) (fun _ d => absurd c2 d) (fun _ _ => ?_)
    rw [s.at (by omega)]
    have Y := (X.wk (fun _ _ z => Hc_f z)).pI (Hp_f hp0) 0
    have f13 := fd13 hR S
    exact ok0 (Y.iv q13.1) (by rw [gI_pI, if_pos ⟨rfl, rfl⟩]) rfl (nx _ (Re_f hR Y F f13))
theorem c_pen {t ax : Int32} (hR : Re (n + 1) h) (nx : ∀ g, Re n g → NX g) : WM G jX10_pen [.ref 0, .int t, .int ax] h (LB G jX11_pen [.ref 83, .int t, .int ax] (some 1) (some 2) NX) := by
  obtain ⟨q13, q1, q2, q3, q4, q5, q6, q7, q8, q9, q11, q12⟩ := id hR
  refine mX10_pen q13.1 q1.1 q1.2.1 q9.1 (fun c => th_N hR rfl (fun h1 X => ?_)) (fun c1 c2 => th_I hR rfl (fun h1 X => ?_)) (fun h1 c1 c2 S F => vl (S.iv q13.1) ?_)
  · have s := X.sa Nf_82 q1
    exact mX11_pen (X.iv q13.1) (s.mr q1.1) (s.cm q1.2.1) (fun _ => thr_m (by decide) hR nx X) (fun d _ => absurd d c) (fun d _ => absurd d c)
  · have s := X.sa Nf_82 q1
    exact mX11_pen (X.iv q13.1) (s.mr q1.1) (s.cm q1.2.1) (fun d => absurd c1 d) (fun _ _ => thr_m (by decide) hR nx X) (fun _ d => absurd d c2)
  · have X := (Fm.cr3 S).pJ 116 0 (iI (pnF h 3 ax.toInt.toNat t.toInt.toNat)).toInt64
    have s := X.sa Hc_82 q1
    refine mX11_pen (X.iv q13.1) (s.mr q1.1) (s.cm q1.2.1) (fun d => absurd c1 d) (fun _ d => absurd c2 d) (fun _ _ => ?_)
    rw [s.pn (by omega)]
    have Y := (X.wk (fun _ _ z => Hc_f z)).pI (Hp_f hp0) 0
    have f13 := fd13 hR S
    exact ok0 (Y.iv q13.1) (by rw [gI_pI, if_pos ⟨rfl, rfl⟩]) rfl (nx _ (Re_f hR Y F f13))
theorem hp96 (k : Nat) : HP 96 k := by unfold HP; omega
theorem c_drawn {a b : Int32} (hR : Re (n + 1) h) (nx : ∀ g, Re n g → NX g) : WM G jX10_drawn [.ref 0, .int a, .int b] h (LB G jX11_drawn [.ref 83, .int a, .int b] none (some 1) NX) := by
  obtain ⟨q13, q1, q2, q3, q4, q5, q6, q7, q8, q9, q11, q12⟩ := id hR
  refine mX10_drawn q13.1 q1.1 q1.2.1 q9.1 (fun c => th_I hR rfl (fun h1 X => ?_)) (fun h1 c1 S F => vl (S.iv q13.1) ?_)
  · have s := X.sa Nf_82 q1
    exact mX11_drawn (X.iv q13.1) (s.mr q1.1) (s.cm q1.2.1) (fun _ => thr_m (by decide) hR nx X) (fun _ d => absurd d c)
  · have X0 : Fm Hc h h1 := Fm.rf.trS S (fun o k z => by unfold crs cr at z; simp at z; unfold Hc; omega)
    have f13 : FdOk h1 13 := FdOk_r (fun o k ho => S.gI (by unfold crs cr; simp; omega) k) q9.2.1
    have X := X0.pJ 116 0 (iI (drF (ceF h 3) a b : Nat)).toInt64
    have s := X.sa Hc_82 q1
    refine mX11_drawn (X.iv q13.1) (s.mr q1.1) (s.cm q1.2.1) (fun d => absurd c1 d) (fun h2 _ sc g0 => ?_)
    rw [s.ce]
    have Y := (X.wk (fun _ _ z => Hc_f z)).sc sc (Hp_f hp0) (fun k => Hp_f (hp96 k))
    refine ok0 (Y.iv q13.1) g0 (by rw [show gJ h2 116 0 = gJ (pJ h1 116 0 (iI (drF (ceF h 3) a b : Nat)).toInt64) 116 0 from by show h2.2.2.1 116 0 = _; rw [sc.1.2.1]; rfl]; rfl) (nx _ (Re_f hR Y ?_ ?_))
    · exact FdOk_r (fun o k ho => sc.1.gI (by unfold ms; simp; omega) k) (show FdOk (pJ h1 116 0 _) 3 from F)
    · exact FdOk_r (fun o k ho => sc.1.gI (by unfold ms; simp; omega) k) (show FdOk (pJ h1 116 0 _) 13 from f13)
theorem c_inCell {x a b : Int32} (hR : Re (n + 1) h) (nx : ∀ g, Re n g → NX g) : WM G jX10_inCell [.ref 0, .int x, .int a, .int b] h (LB G jX11_inCell [.ref 83, .int x, .int a, .int b] (some 1) (some 2) NX) := by
  obtain ⟨q13, q1, q2, q3, q4, q5, q6, q7, q8, q9, q11, q12⟩ := id hR
  refine mX10_inCell q13.1 q1.1 q1.2.1 q9.1 (fun c => th_N hR rfl (fun h1 X => ?_)) (fun c1 c2 => th_I hR rfl (fun h1 X => ?_)) (fun h1 c1 c2 S F => vl (S.iv q13.1) ?_)
  · have s := X.sa Nf_82 q1
    exact mX11_inCell (X.iv q13.1) (s.mr q1.1) (s.cm q1.2.1) (fun _ => thr_m (by decide) hR nx X) (fun d _ => absurd d c) (fun d _ => absurd d c)
  · have s := X.sa Nf_82 q1
    exact mX11_inCell (X.iv q13.1) (s.mr q1.1) (s.cm q1.2.1) (fun d => absurd c1 d) (fun _ _ => thr_m (by decide) hR nx X) (fun _ d => absurd d c2)
  · have X := (Fm.cr3 S).pJ 116 0 (iI (fdF (ceF h 3) x a b)).toInt64
    have s := X.sa Hc_82 q1
    refine mX11_inCell (X.iv q13.1) (s.mr q1.1) (s.cm q1.2.1) (fun d => absurd c1 d) (fun _ d => absurd c2 d) (fun _ _ => ?_)
    rw [s.ce]
    have Y := (X.wk (fun _ _ z => Hc_f z)).pI (Hp_f hp0) 0
    have f13 := fd13 hR S
    exact ok0 (Y.iv q13.1) (by rw [gI_pI, if_pos ⟨rfl, rfl⟩]) rfl (nx _ (Re_f hR Y F f13))
theorem c_pendulum {p w : Int32} (hR : Re (n + 1) h) (nx : ∀ g, Re n g → NX g) : WM G jX10_pendulum [.ref 0, .int p, .int w] h (LB G jX11_pendulum [.ref 83, .int p, .int w] (some 1) none NX) := by
  obtain ⟨q13, q1, q2, q3, q4, q5, q6, q7, q8, q9, q11, q12⟩ := id hR
  refine mX10_pendulum q13.1 (fun c => th_N hR rfl (fun h1 X => ?_)) (fun c => vl q13.1 ?_)
  · exact mX11_pendulum (X.iv q13.1) (fun _ => thr_m (by decide) hR nx X) (fun d => absurd d c)
  · have X := (Fm.rf (S := Nf) (h := h)).pJ 116 0 (peV h 4 5 6 7 p.toInt.toNat w).toInt64
    have s := X.sa Nf_82 q1
    refine mX11_pendulum (X.iv q13.1) (fun d => absurd c d) (fun _ => ?_)
    have p4 : p.toInt.toNat < 4 := by have := c.1.2; omega
    rw [s.pe p4]
    have Y := (X.wk (T := HP) (fun _ _ z => z.elim)).pI hp0 0
    exact ok0 (Y.iv q13.1) (by rw [gI_pI, if_pos ⟨rfl, rfl⟩]) rfl (nx _ (Re_q hR Y))
theorem cnt_s {w : Nat} (hw : w ≤ 10) (q1 : P1 h) (q2 : P2 h) (q3 : P3 h) (q4 : P4 h) (U : ∀ o k, 83 ≤ o ∧ o ≤ 90 → gI h1 o k = gI h o k) : cntM h1 w = cntV h w := by
  obtain ⟨_, _, c, d, _⟩ := q1
  obtain ⟨_, ⟨b1, b2, b3⟩, _⟩ := q2
  obtain ⟨l, z, _, l1, l2, _⟩ := q4
  rcases (show w = 0 ∨ w = 1 ∨ w = 2 ∨ w = 3 ∨ w = 4 ∨ w = 5 ∨ w = 6 ∨ w = 7 ∨ w = 8 ∨ w = 9 ∨ w = 10 by omega) with rfl | rfl | rfl | rfl | rfl | rfl | rfl | rfl | rfl | rfl | rfl
  · exact (U 83 1 (by omega)).trans c
  · exact (U 83 2 (by omega)).trans d
  · exact (U 83 30 (by omega)).trans b1
  · exact (U 83 33 (by omega)).trans b2
  · exact (U 83 36 (by omega)).trans b3
  · exact (U 83 9 (by omega)).trans (l2.trans l1.symm)
  · exact (U 90 0 (by omega)).trans (q3 0 (by omega))
  · exact (U 90 1 (by omega)).trans (q3 1 (by omega))
  · exact (U 90 2 (by omega)).trans (q3 2 (by omega))
  · exact (U 90 3 (by omega)).trans (q3 3 (by omega))
  · exact (U 90 4 (by omega)).trans (q3 4 (by omega))
theorem c_count {w : Int32} (hR : Re (n + 1) h) (nx : ∀ g, Re n g → NX g) : WM G jX10_count [.ref 0, .int w] h (LB G jX11_count [.ref 83, .int w] (some 1) none NX) := by
  obtain ⟨q13, q1, q2, q3, q4, q5, q6, q7, q8, q9, q11, q12⟩ := id hR
  refine mX10_count q13.1 (fun c => th_N hR rfl (fun h1 X => ?_)) (fun c1 c2 => vl q13.1 ?_)
  · exact mX11_count (X.iv q13.1) (fun _ => thr_m (by decide) hR nx X) (fun d => absurd d c)
  · have X := (Fm.rf (S := Nf) (h := h)).pJ 116 0 (cntV h w.toInt.toNat).toInt64
    refine mX11_count (X.iv q13.1) (fun d => absurd ⟨c1, c2⟩ d) (fun _ => ?_)
    rw [cnt_s (by omega) q1 q2 q3 q4 (fun o k ho => X.2.2 o k (by omega) (fun z => z))]
    have Y := (X.wk (T := HP) (fun _ _ z => z.elim)).pI hp0 0
    exact ok0 (Y.iv q13.1) (by rw [gI_pI, if_pos ⟨rfl, rfl⟩]) rfl (nx _ (Re_q hR Y))
theorem c_chord {a b w : Int32} (hR : Re (n + 1) h) (nx : ∀ g, Re n g → NX g) : WM G jX10_chord [.ref 0, .int a, .int b, .int w] h (LB G jX11_chord [.ref 83, .int a, .int b, .int w] (some 1) (some 2) NX) := by
  obtain ⟨q13, q1, q2, q3, q4, q5, q6, q7, q8, q9, q11, q12⟩ := id hR
  refine mX10_chord q13.1 q1.1 (fun c => th_N hR rfl (fun h1 X => ?_)) (fun c1 c2 => th_I hR rfl (fun h1 X => ?_)) (fun c1 c2 => vl q13.1 ?_)
  · have s := X.sa Nf_82 q1
    exact mX11_chord (X.iv q13.1) (s.mr q1.1) (fun _ => thr_m (by decide) hR nx X) (fun d _ => absurd d c) (fun d _ => absurd d c)
  · have s := X.sa Nf_82 q1
    exact mX11_chord (X.iv q13.1) (s.mr q1.1) (fun d => absurd c1 d) (fun _ _ => thr_m (by decide) hR nx X) (fun _ d => absurd d c2)
  · have X := (Fm.rf (S := Nf) (h := h)).pJ 116 0 (iI (chV h 5 7 a b w)).toInt64
    have s := X.sa Nf_82 q1
    refine mX11_chord (X.iv q13.1) (s.mr q1.1) (fun d => absurd c1 d) (fun _ d => absurd c2 d) (fun _ _ => ?_)
    rw [s.ch]
    have Y := (X.wk (T := HP) (fun _ _ z => z.elim)).pI hp0 0
    exact ok0 (Y.iv q13.1) (by rw [gI_pI, if_pos ⟨rfl, rfl⟩]) rfl (nx _ (Re_q hR Y))
theorem c_fault (hR : Re (n + 1) h) (nx : ∀ g, Re n g → NX g) : WM G jX10_fault [.ref 0] h (LA G jX11_fault [.ref 83] NX) := by
  obtain ⟨q13, q1, q2, q3, q4, q5, q6, q7, q8, q9, q11, q12⟩ := id hR
  refine mX10_fault q13.1 ⟨_, rfl, q13.1, mX11_fault q13.1 ?_⟩
  have Y := (Fm.rf (S := HP) (h := h)).pI hp0 0
  have e : gI h 83 11 = fX10_fault h := q5
  rw [e]
  exact ⟨rfl, Y.iv q13.1, nx _ (Re_q hR Y)⟩
theorem c_round (hR : Re (n + 1) h) (nx : ∀ g, Re n g → NX g) : WM G jX10_round [.ref 0] h (LA G jX11_round [.ref 83] NX) := by
  obtain ⟨q13, q1, q2, q3, q4, q5, q6, q7, q8, q9, q11, q12⟩ := id hR
  have s := (Fm.rf (S := Nf) (h := h)).sa Nf_82 q1
  refine mX10_round q13.1 q1.1 ⟨_, rfl, q13.1, mX11_round q13.1 (s.mr q1.1) ?_⟩
  have Y := (Fm.rf (S := HP) (h := h)).pI hp0 0
  rw [s.rd]
  exact ⟨rfl, Y.iv q13.1, nx _ (Re_q hR Y)⟩
theorem c_off (hR : Re (n + 1) h) (nx : ∀ g, Re n g → NX g) : WM G jX10_off [.ref 0] h (LA G jX11_off [.ref 83] NX) := by
  obtain ⟨q13, q1, q2, q3, q4, q5, q6, q7, q8, q9, q11, q12⟩ := id hR
  refine mX10_off q13.1 q1.1 q9.1 (fun h1 S F => ⟨_, rfl, S.iv q13.1, ?_⟩)
  have X := Fm.cr3 S
  have s := X.sa Hc_82 q1
  refine mX11_off (X.iv q13.1) (s.mr q1.1) ?_
  rw [s.of]
  have Y := (X.wk (fun _ _ z => Hc_f z)).pI (Hp_f hp0) 0
  have f13 := fd13 hR S
  exact ⟨rfl, Y.iv q13.1, nx _ (Re_f hR Y F f13)⟩
end LAWQ
