section LAWQ2
variable {G : GX} {h h1 : mH} {n : Nat} {NX : mH → Prop}
theorem Hk.np {c a1 a2 a3 : Nat} (p : Hk h c a1 a2 a3) : ∃ np : Nat, gI h c 1 = iI np ∧ (gI h c 1).toInt = np ∧ np ≤ 8 ∧ ∀ i, i < np → StW h a1 (12 * i) := by
  obtain ⟨np, nq, nb, e1, e2, e3, l8, st, pt, dy⟩ := p
  exact ⟨np, e1, by rw [e1, iI_toInt ⟨by omega, by omega⟩], l8, st⟩
theorem Sb.pk (q : Sb h h1) {v : Int32} : pkM h1 v ↔ pk h v := by
  unfold pkM _root_.Jvm.Pilot.CPenSwingsLaw_law_r2440_7aaa7a.pk
  rw [q.1.1]
theorem c_alike {p q : Int32} (hR : Re (n + 1) h) (nx : ∀ g, Re n g → NX g) : WM G jX10_alike [.ref 0, .int p, .int q] h (LB G jX11_alike [.ref 83, .int p, .int q] (some 1) none NX) := by
  obtain ⟨q13, q1, q2, q3, q4, q5, q6, q7, q8, q9, q11, q12⟩ := id hR
  obtain ⟨np, e1, e2, l8, st⟩ := q2.1.np
  have prr : ∀ i : Nat, (i : Int) < (gI h 33 1).toInt → PrR h 35 (12 * i) := fun i hi => PrR_of q1.1 (st i (by omega))
  have mrr : ∀ g, Sa h g → Sb h g → ∀ i : Nat, (i : Int) < (gI g 83 30).toInt → MR g 97 (12 * i) := fun g s b i hi => by
    rw [b.1.1, e2] at hi
    exact Sab.mr s b (by omega) q1.1 (st i (by omega))
  refine mX10_alike q13.1 (by omega) prr (fun c => th_N hR rfl (fun h1 X => ?_)) (fun h1 c S => vl (S.iv q13.1) ?_)
  · have s := X.sa Nf_82 q1
    have b := X.sb Nf_82 q2
    exact mX11_alike (X.iv q13.1) (by rw [b.1.1]; omega) (mrr _ s b) (fun _ => thr_m (by decide) hR nx X) (fun d => absurd ⟨b.pk.mp d.1, b.pk.mp d.2⟩ c)
  · have X0 : Fm Hc h h1 := Fm.rf.trS S (fun o k z => by unfold cmS mr jnS at z; simp at z; unfold Hc; omega)
    have X := X0.pJ 116 0 (iI (alV h 4 5 35 p.toInt.toNat q.toInt.toNat)).toInt64
    have s := X.sa Hc_82 q1
    have b := X.sb Hc_82 q2
    obtain ⟨c1, c2⟩ := c
    have p8 : p.toInt.toNat < 8 := by have := c1.2; omega
    have q8' : q.toInt.toNat < 8 := by have := c2.2; omega
    refine mX11_alike (X.iv q13.1) (by rw [b.1.1]; omega) (mrr _ s b) (fun d => absurd ⟨b.pk.mpr c1, b.pk.mpr c2⟩ d) (fun _ => ?_)
    rw [(Sab.al s b p8 q8').1]
    have Y := (X.wk (fun _ _ z => Hc_f z)).pI (Hp_f hp0) 0
    have f3 : FdOk h1 3 := FdOk_r (fun o k ho => S.gI (by unfold cmS mr jnS; simp; omega) k) q9.1
    have f13 : FdOk h1 13 := FdOk_r (fun o k ho => S.gI (by unfold cmS mr jnS; simp; omega) k) q9.2.1
    exact ok0 (Y.iv q13.1) (by rw [gI_pI, if_pos ⟨rfl, rfl⟩]) rfl (nx _ (Re_f hR Y f3 f13))
theorem c_kinds {v : Int32} (hR : Re (n + 1) h) (nx : ∀ g, Re n g → NX g) : WM G jX10_kinds [.ref 0, .int v] h (LB G jX11_kinds [.ref 83, .int v] (some 1) none NX) := by
  obtain ⟨q13, q1, q2, q3, q4, q5, q6, q7, q8, q9, q11, q12⟩ := id hR
  obtain ⟨np, e1, e2, l8, st⟩ := q2.1.np
  have prr : ∀ i : Nat, i < np → PrR h 35 (12 * i) := fun i hi => PrR_of q1.1 (st i hi)
  have mrr : ∀ g, Sa h g → Sb h g → ∀ i : Nat, i < np → MR g 97 (12 * i) := fun g s b i hi => Sab.mr s b (by omega) q1.1 (st i hi)
  refine mX10_kinds q13.1 e1 l8 prr (fun c0 c => th_N hR rfl (fun h1 X => ?_)) (fun h1 c S => vl (S.iv q13.1) ?_)
  · have s := X.sa Nf_82 q1
    have b := X.sb Nf_82 q2
    exact mX11_kinds (X.iv q13.1) (by rw [b.1.1]; exact e1) l8 (mrr _ s b) (fun _ _ => thr_m (by decide) hR nx X) (fun g d _ => absurd d (fun d => d.elim c0 (fun d => c (b.pk.mp d))))
  · have X0 : Fm Hc h h1 := Fm.rf.trS S (fun o k z => by unfold cmS mr jnS at z; simp at z; unfold Hc; omega)
    have X := X0.pJ 116 0 (iI (kdV (alT h 4 5 35) np v)).toInt64
    have s := X.sa Hc_82 q1
    have b := X.sb Hc_82 q2
    refine mX11_kinds (X.iv q13.1) (by rw [b.1.1]; exact e1) l8 (mrr _ s b) (fun d0 d => c.elim (fun z => absurd z d0) (fun z => absurd (b.pk.mpr z) d)) (fun h2 _ S2 => ?_)
    have hv : v = -1 ∨ v.toInt.toNat < np := c.elim .inl (fun z => .inr (by have := z.1; have := z.2; omega))
    rw [Sab.kd s b l8 hv]
    have Y := ((X.wk (fun _ _ z => Hc_f z)).pI (Hp_f hp0) 0).trS S2 (fun o k z => Hp_f (by simp at z; unfold HP; omega))
    have f3 : FdOk h1 3 := FdOk_r (fun o k ho => S.gI (by unfold cmS mr jnS; simp; omega) k) q9.1
    have f13 : FdOk h1 13 := FdOk_r (fun o k ho => S.gI (by unfold cmS mr jnS; simp; omega) k) q9.2.1
    have w : ∀ o k, o ≠ 83 → o ≠ 98 → gI h2 o k = gI h1 o k := fun o k a1 a2 => by
      rw [S2.gI (by simpa using a2), gI_pI, if_neg (fun z => a1 z.1)]
      rfl
    refine ok0 (Y.iv q13.1) (by rw [S2.gI (o := 83) rfl, gI_pI, if_pos ⟨rfl, rfl⟩]) (by show h2.2.2.1 116 0 = _; rw [S2.2.1]; rfl) (nx _ (Re_f hR Y (FdOk_r (fun o k ho => w o k (by omega) (by omega)) f3) (FdOk_r (fun o k ho => w o k (by omega) (by omega)) f13)))
theorem Hk.nq {c a1 a2 a3 : Nat} (p : Hk h c a1 a2 a3) : ∃ nq : Nat, gI h c 3 = iI nq ∧ PtR h a2 nq := by
  obtain ⟨np, nq, nb, e1, e2, e3, l8, st, pt, dy⟩ := p
  exact ⟨nq, e2, pt⟩
theorem Hk.nb {c a1 a2 a3 : Nat} (p : Hk h c a1 a2 a3) : ∃ nb : Nat, gI h c 5 = iI nb ∧ DyR h a3 nb := by
  obtain ⟨np, nq, nb, e1, e2, e3, l8, st, pt, dy⟩ := p
  exact ⟨nb, e3, dy⟩
theorem Sb.pt (q : Sb h h1) {m : Nat} (p : PtR h 36 m) : PtR h1 99 m := ⟨p.1, fun i hi => ⟨by rw [q.2.2.1 _ (by have := p.1; omega)]; exact (p.2 i hi).1, fun x hx => by rw [q.2.2.1 _ (by have := p.1; omega)]; exact (p.2 i hi).2 x hx⟩⟩
theorem Sb.dy (q : Sb h h1) {m : Nat} (p : DyR h 37 m) : DyR h1 101 m := ⟨p.1, fun i hi => by rw [q.2.2.2 _ (by have := p.1; omega)]; exact p.2 i hi⟩
theorem c_fits {a b w : Int32} (hR : Re (n + 1) h) (nx : ∀ g, Re n g → NX g) : WM G jX10_fits [.ref 0, .int a, .int b, .int w] h (LB G jX11_fits [.ref 83, .int a, .int b, .int w] (some 1) (some 2) NX) := by
  obtain ⟨q13, q1, q2, q3, q4, q5, q6, q7, q8, q9, q11, q12⟩ := id hR
  obtain ⟨nq, e3, pt⟩ := q2.1.nq
  refine mX10_fits q13.1 e3 pt q1.1 q1.2.1 q9.2.1 (fun c => th_N hR rfl (fun h1 X => ?_)) (fun c1 c2 => th_I hR rfl (fun h1 X => ?_)) (fun h1 c1 c2 S F => vl (S.iv q13.1) ?_)
  · have s := X.sa Nf_82 q1
    have b := X.sb Nf_82 q2
    exact mX11_fits (X.iv q13.1) (by rw [b.1.2.1]; exact e3) (b.pt pt) (s.mr q1.1) (s.cm q1.2.1) (fun _ => thr_m (by decide) hR nx X) (fun d _ => absurd d c) (fun _ d _ _ => absurd d c)
  · have s := X.sa Nf_82 q1
    have b := X.sb Nf_82 q2
    exact mX11_fits (X.iv q13.1) (by rw [b.1.2.1]; exact e3) (b.pt pt) (s.mr q1.1) (s.cm q1.2.1) (fun d => absurd c1 d) (fun _ _ => thr_m (by decide) hR nx X) (fun _ _ d _ => absurd d c2)
  · have X0 : Fm Hc h h1 := Fm.rf.trS S (fun o k z => by unfold ftS frS fpS mr cr at z; simp at z; unfold Hc; omega)
    have X := X0.pJ 116 0 (iI (fitV (oFt h 3 36) nq a b w)).toInt64
    have s := X.sa Hc_82 q1
    have b' := X.sb Hc_82 q2
    refine mX11_fits (X.iv q13.1) (by rw [b'.1.2.1]; exact e3) (b'.pt pt) (s.mr q1.1) (s.cm q1.2.1) (fun d => absurd c1 d) (fun _ d => absurd c2 d) (fun h2 _ _ S2 => ?_)
    rw [Sab.ft s b' pt.1]
    have Y := ((X.wk (fun _ _ z => Hc_f z)).pI (Hp_f hp0) 0).trS S2 (fun o k z => Hp_f (by simp at z; unfold HP; omega))
    have f3 : FdOk h1 3 := FdOk_r (fun o k ho => S.gI (by unfold ftS frS fpS mr cr; simp; omega) k) q9.1
    have w : ∀ o k, o ≠ 83 → o ≠ 100 → gI h2 o k = gI h1 o k := fun o k a1 a2 => by
      rw [S2.gI (by simpa using a2), gI_pI, if_neg (fun z => a1 z.1)]
      rfl
    exact ok0 (Y.iv q13.1) (by rw [S2.gI (o := 83) rfl, gI_pI, if_pos ⟨rfl, rfl⟩]) (by show h2.2.2.1 116 0 = _; rw [S2.2.1]; rfl) (nx _ (Re_f hR Y (FdOk_r (fun o k ho => w o k (by omega) (by omega)) f3) (FdOk_r (fun o k ho => w o k (by omega) (by omega)) F)))
theorem c_cart {w : Int32} (hR : Re (n + 1) h) (nx : ∀ g, Re n g → NX g) : WM G jX10_cart [.ref 0, .int w] h (LB G jX11_cart [.ref 83, .int w] (some 1) none NX) := by
  obtain ⟨q13, q1, q2, q3, q4, q5, q6, q7, q8, q9, q11, q12⟩ := id hR
  obtain ⟨nq, e3, pt⟩ := q2.1.nq
  refine mX10_cart q13.1 q1.1 q9.1 e3 pt (fun c => th_N hR rfl (fun h1 X => ?_)) (fun h1 c1 S F => vl (S.iv q13.1) ?_)
  · have s := X.sa Nf_82 q1
    have b := X.sb Nf_82 q2
    exact mX11_cart (X.iv q13.1) (s.mr q1.1) (b.pt pt) (by rw [b.1.2.1]; exact e3) (fun _ => thr_m (by decide) hR nx X) (fun d => absurd d c)
  · have X0 : Fm Hc h h1 := Fm.rf.trS S (fun o k z => by unfold csm cr at z; simp at z; unfold Hc; omega)
    have X := X0.pJ 116 0 (iI (caV (shw (tkF h 36) (wyF h) nq) (wyF h) w)).toInt64
    have s := X.sa Hc_82 q1
    have b := X.sb Hc_82 q2
    refine mX11_cart (X.iv q13.1) (s.mr q1.1) (b.pt pt) (by rw [b.1.2.1]; exact e3) (fun d => absurd c1 d) (fun _ => ?_)
    rw [Sab.ca s b pt.1]
    have Y := (X.wk (fun _ _ z => Hc_f z)).pI (Hp_f hp0) 0
    have f13 : FdOk h1 13 := FdOk_r (fun o k ho => S.gI (by unfold csm cr; simp; omega) k) q9.2.1
    exact ok0 (Y.iv q13.1) (by rw [gI_pI, if_pos ⟨rfl, rfl⟩]) rfl (nx _ (Re_f hR Y F f13))
theorem c_laid {p q a b w : Int32} (hR : Re (n + 1) h) (nx : ∀ g, Re n g → NX g) : WM G jX10_laid [.ref 0, .int p, .int q, .int a, .int b, .int w] h (LB G jX11_laid [.ref 83, .int p, .int q, .int a, .int b, .int w] (some 1) (some 2) NX) := by
  obtain ⟨q13, q1, q2, q3, q4, q5, q6, q7, q8, q9, q11, q12⟩ := id hR
  obtain ⟨np, e1, e2, l8, st⟩ := q2.1.np
  have prr : ∀ i : Nat, (i : Int) < (gI h 33 1).toInt → PrR h 35 (12 * i) := fun i hi => PrR_of q1.1 (st i (by omega))
  have mrr : ∀ g, Sa h g → Sb h g → ∀ i : Nat, (i : Int) < (gI g 83 30).toInt → MR g 97 (12 * i) := fun g s b i hi => by
    rw [b.1.1, e2] at hi
    exact Sab.mr s b (by omega) q1.1 (st i (by omega))
  refine mX10_laid q13.1 (by omega) prr q9.2.1 (fun c => th_N hR rfl (fun h1 X => ?_)) (fun c1 c2 => th_I hR rfl (fun h1 X => ?_)) (fun h1 c1 c2 S F => vl (S.iv q13.1) ?_)
  · have s := X.sa Nf_82 q1
    have b := X.sb Nf_82 q2
    exact mX11_laid (X.iv q13.1) (by rw [b.1.1]; omega) (mrr _ s b) (fun _ => thr_m (by decide) hR nx X) (fun d _ => absurd ⟨b.pk.mp d.1, b.pk.mp d.2.1, d.2.2⟩ c) (fun _ d => absurd ⟨b.pk.mp d.1, b.pk.mp d.2.1, d.2.2⟩ c)
  · have s := X.sa Nf_82 q1
    have b := X.sb Nf_82 q2
    exact mX11_laid (X.iv q13.1) (by rw [b.1.1]; omega) (mrr _ s b) (fun d => absurd ⟨b.pk.mpr c1.1, b.pk.mpr c1.2.1, c1.2.2⟩ d) (fun _ _ => thr_m (by decide) hR nx X) (fun _ _ d => absurd d c2)
  · have X0 : Fm Hc h h1 := Fm.rf.trS S (fun o k z => by unfold mrs at z; simp at z; unfold Hc; omega)
    have X := X0.pJ 116 0 (iI (laV (ceC h (12 * p.toInt.toNat)) (ceC h (12 * q.toInt.toNat)) a b w : Nat)).toInt64
    have s := X.sa Hc_82 q1
    have b' := X.sb Hc_82 q2
    have p8 : p.toInt.toNat < 8 := by have := c1.1.2; omega
    have q8' : q.toInt.toNat < 8 := by have := c1.2.1.2; omega
    refine mX11_laid (X.iv q13.1) (by rw [b'.1.1]; omega) (mrr _ s b') (fun d => absurd ⟨b'.pk.mpr c1.1, b'.pk.mpr c1.2.1, c1.2.2⟩ d) (fun _ d => absurd c2 d) (fun h2 _ _ sc g0 => ?_)
    rw [Sab.ce s b' p8, Sab.ce s b' q8']
    have Y := (X.wk (fun _ _ z => Hc_f z)).sc sc (Hp_f hp0) (fun k => Hp_f (hp96 k))
    have f3 : FdOk h1 3 := FdOk_r (fun o k ho => S.gI (by unfold mrs; simp; omega) k) q9.1
    refine ok0 (Y.iv q13.1) g0 (by show h2.2.2.1 116 0 = _; rw [sc.1.2.1]; rfl) (nx _ (Re_f hR Y ?_ ?_))
    · exact FdOk_r (fun o k ho => sc.1.gI (by unfold ms; simp; omega) k) (show FdOk (pJ h1 116 0 _) 3 from f3)
    · exact FdOk_r (fun o k ho => sc.1.gI (by unfold ms; simp; omega) k) (show FdOk (pJ h1 116 0 _) 13 from F)
theorem c_factor {w : Int32} (hR : Re (n + 1) h) (nx : ∀ g, Re n g → NX g) : WM G jX10_factor [.ref 0, .int w] h (LB G jX11_factor [.ref 83, .int w] (some 1) none NX) := by
  obtain ⟨q13, q1, q2, q3, q4, q5, q6, q7, q8, q9, q11, q12⟩ := id hR
  obtain ⟨nb, e5, dy⟩ := q2.1.nb
  refine mX10_factor q13.1 e5 dy (fun z => q11 nb dy.1 e5 z) (fun c => th_N hR rfl (fun h1 X => ?_)) (fun h1 c1 S E B => vl (S.iv q13.1) ?_)
  · have b := X.sb Nf_82 q2
    exact mX11_factor (X.iv q13.1) (by rw [b.1.2.2]; exact e5) (b.dy dy) (fun _ => thr_m (by decide) hR nx X) (fun d => absurd d c)
  · have X0 : Fm (fun o _ => o = 80) h h1 := Fm.rf.trS S (fun o k z => by simpa using z)
    have X := X0.pJ 116 0 (iI (faV h 37 nb w)).toInt64
    have b := X.sb (fun o k z => by omega) q2
    refine mX11_factor (X.iv q13.1) (by rw [b.1.2.2]; exact e5) (b.dy dy) (fun d => absurd c1 d) (fun _ => ?_)
    rw [b.fa dy.1]
    have Y0 : Fm (fun o k => HP o k ∨ o = 80) h (pI (pJ h1 116 0 (iI (faV h 37 nb w)).toInt64) 83 0 0) := (X.wk (fun _ _ z => .inr z)).pI (.inl hp0) 0
    have U : ∀ o k, o < 117 → ¬ HP o k → o ≠ 80 → gI (pI (pJ h1 116 0 (iI (faV h 37 nb w)).toInt64) 83 0 0) o k = gI h o k := fun o k a1 a2 a3 => Y0.2.2 o k a1 (fun z => z.elim a2 a3)
    have U80 : ∀ k, gI (pI (pJ h1 116 0 (iI (faV h 37 nb w)).toInt64) 83 0 0) 80 k = gI h1 80 k := fun k => by rw [gI_pI, if_neg (by omega)]; rfl
    generalize hg : pI (pJ h1 116 0 (iI (faV h 37 nb w)).toInt64) 83 0 0 = g at *
    refine ok0 (Y0.iv q13.1) (by rw [← hg, gI_pI, if_pos ⟨rfl, rfl⟩]) (by rw [← hg]; rfl) (nx _ (Re_g hR (Y0.wk (fun o k z => z.elim .inl (fun z => .inr (by omega)))) ?_ ?_ ?_ ?_))
    · exact P8_c (fun o k ho => U o k (by omega) (by unfold HP; omega) (by omega)) (fun k => Y0.2.1 0 k (by omega)) q8
    · exact P9_c (fun o k ho => U o k (by omega) (by unfold HP; omega) (by omega)) q9
    · intro m hm f1 f2
      rw [U 33 5 (by omega) (by unfold HP; omega) (by omega), e5, eq_n (by have := dy.1; omega) (by omega)] at f1
      subst f1
      obtain ⟨b1, b2⟩ := B
      unfold BsOk
      rw [dyV_r (fun k => U 37 k (by omega) (by unfold HP; omega) (by omega)), U80, U80]
      exact ⟨b1, b2⟩
    · obtain ⟨c, a, b, f1, l, f2, b1, b2, f3, b3, b4⟩ := q12
      have z : gI g 0 16 = gI h 0 16 := U 0 16 (by omega) (by unfold HP; omega) (by omega)
      exact ⟨c, a, (c : Int), by rw [z]; exact f1, by omega, by rw [U 55 8 (by omega) (by unfold HP; omega) (by omega)]; exact f2, b1, b2, by rw [U80, E]; exact f1, by omega, by omega⟩
end LAWQ2
