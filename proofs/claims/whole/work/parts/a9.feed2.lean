section FEED2
variable {G : GX} {h : mH} {Q : mO → mH → Prop}
theorem mX9_lay2 {n : Nat} {v : Int32} (hi : Iv h) (hn : gI h 1 1 = iI n) (hb : n + 4 ≤ 400) (k : ∀ g, Ce lyS h g → gI g 1 1 = iI ((n + 4 : Nat) : Int) → (∀ q, q < 4 → gI g 2 (n + q) = byC v (iI (shA q))) → (∀ i, i < n ∨ n + 4 ≤ i → gI g 2 i = gI h 2 i) → Q (.inl none) g) : WM G jX9_lay [.ref 1, .int v] h Q := by
  refine eX9_lay hi ?_
  have loop : ∀ (d q : Nat) (g : mH), q + d = 4 → Ce lyS h g → gI g 1 1 = iI ((n + q : Nat) : Int) → (∀ q', q' < q → gI g 2 (n + q') = byC v (iI (shA q'))) → (∀ i, i < n ∨ n + 4 ≤ i → gI g 2 i = gI h 2 i) → Vw G jX9_lay 3 [some (.ref 1), some (.int v), some (.int (iI (shA q)))] [] g Q := by
    intro d
    induction d with
    | zero =>
      intro q g hq hC hl hd ho
      have : q = 4 := by omega
      subst this
      exact bX9_lay_3 (hC.iv hi) ⟨fun _ => k g hC hl hd ho, fun z => absurd (by decide) z⟩
    | succ d ih =>
      intro q g hq hC hl hd ho
      have e1 : iI (shA q) + (-8) = iI (shA (q + 1)) := by
        rw [show (-8 : Int32) = iI (-8) from by decide, iI_add]
        unfold shA
        congr 1
        omega
      refine bX9_lay_3 (hC.iv hi) ⟨fun z => ?_, fun _ => ⟨fun z => ?_, fun _ => ?_⟩⟩
      · unfold shA at z
        rw [lt1_iI (by omega) (by omega)] at z
        omega
      · rw [hl, n_400, le_n (by omega) (by omega)] at z
        omega
      · have r : ∀ w, gI (pI g 2 (n + q) w) 1 1 = iI ((n + q : Nat) : Int) := fun w => by rw [gI_pI, if_neg (by omega)]; exact hl
        rw [hl, ix_n (by omega), e1, r, n_1, ad_n]
        refine ⟨in_n (by omega) (by omega), ih (q + 1) _ (by omega) ((hC.pI rfl _).pI rfl _) (by rw [gI_pI, if_pos ⟨rfl, rfl⟩]; rfl) (fun q' hq' => ?_) (fun i hi => ?_)⟩
        · rw [gI_pI, if_neg (by omega), gI_pI]
          by_cases c : q' = q
          · subst c
            rw [if_pos ⟨rfl, rfl⟩]; rfl
          · rw [if_neg (by omega)]
            exact hd q' (by omega)
        · rw [gI_pI, if_neg (by omega), gI_pI, if_neg (by omega)]
          exact ho i hi
  exact loop 4 0 h (by omega) Ce.rf hn (fun q' hq' => absurd hq' (by omega)) (fun _ _ => rfl)
theorem mX11_lays2 {n : Nat} {v : Int32} (hi : Iv h) (hn : gI h 83 9 = iI n) (hb : n + 4 ≤ 400) (k : ∀ g, Ce lmS h g → gI g 83 9 = iI ((n + 4 : Nat) : Int) → (∀ q, q < 4 → gI g 89 (n + q) = byM v (iI (shA q))) → (∀ i, i < n ∨ n + 4 ≤ i → gI g 89 i = gI h 89 i) → Q (.inl none) g) : WM G jX11_lays [.ref 83, .int v] h Q := by
  refine eX11_lays hi ?_
  have loop : ∀ (d q : Nat) (g : mH), q + d = 4 → Ce lmS h g → gI g 83 9 = iI ((n + q : Nat) : Int) → (∀ q', q' < q → gI g 89 (n + q') = byM v (iI (shA q'))) → (∀ i, i < n ∨ n + 4 ≤ i → gI g 89 i = gI h 89 i) → Vw G jX11_lays 3 [some (.ref 83), some (.int v), some (.int (iI (shA q)))] [] g Q := by
    intro d
    induction d with
    | zero =>
      intro q g hq hC hl hd ho
      have : q = 4 := by omega
      subst this
      exact bX11_lays_3 (hC.iv hi) ⟨fun _ => k g hC hl hd ho, fun z => absurd (by decide) z⟩
    | succ d ih =>
      intro q g hq hC hl hd ho
      have e1 : iI (shA q) + (-8) = iI (shA (q + 1)) := by
        rw [show (-8 : Int32) = iI (-8) from by decide, iI_add]
        unfold shA
        congr 1
        omega
      refine bX11_lays_3 (hC.iv hi) ⟨fun z => ?_, fun _ => ?_⟩
      · unfold shA at z
        rw [lt1_iI (by omega) (by omega)] at z
        omega
      · have r : ∀ w, gI (pI g 89 (n + q) w) 83 9 = iI ((n + q : Nat) : Int) := fun w => by rw [gI_pI, if_neg (by omega)]; exact hl
        rw [hl, ix_n (by omega), e1, r, n_1, ad_n]
        refine ⟨in_n (by omega) (by omega), ih (q + 1) _ (by omega) ((hC.pI rfl _).pI rfl _) (by rw [gI_pI, if_pos ⟨rfl, rfl⟩]; rfl) (fun q' hq' => ?_) (fun i hi => ?_)⟩
        · rw [gI_pI, if_neg (by omega), gI_pI]
          by_cases c : q' = q
          · subst c
            rw [if_pos ⟨rfl, rfl⟩]; rfl
          · rw [if_neg (by omega)]
            exact hd q' (by omega)
        · rw [gI_pI, if_neg (by omega), gI_pI, if_neg (by omega)]
          exact ho i hi
  exact loop 4 0 h (by omega) Ce.rf hn (fun q' hq' => absurd hq' (by omega)) (fun _ _ => rfl)
theorem mX10_feed2 {n : Nat} {a b c d e : Int32} (hi : Iv h) (hn : gI h 1 1 = iI n) (hn4 : n ≤ 400) (k0 : 400 < n + 20 → Q (.inl (some (.int (-1)))) h)
    (k : n + 20 ≤ 400 → ∀ g, Ce lyS h g → gI g 1 1 = iI ((n + 20 : Nat) : Int) → (∀ i, i < 20 → gI g 2 (n + i) = byC (a5 a b c d e (i / 4)) (iI (shA (i % 4)))) → (∀ i, i < n ∨ n + 20 ≤ i → gI g 2 i = gI h 2 i) → Q (.inl (some (.int (iI ((n + 20 : Nat) : Int))))) g) : WM G jX10_feed [.ref 0, .int a, .int b, .int c, .int d, .int e] h Q := by
  have hr : fX9_hasRoom h = bL (decide (n + 20 ≤ 400)) := by
    unfold fX9_hasRoom bL
    rw [hn, n_20, ad_n, n_400]
    by_cases c : n + 20 ≤ 400
    · rw [if_neg (fun z => by rw [lt_n (by omega) (by omega)] at z; omega), decide_eq_true c]; rfl
    · rw [if_pos ((lt_n (by omega) (by omega)).mpr (by omega)), decide_eq_false c]; rfl
  refine eX10_feed hi ?_
  rw [hr]
  refine ⟨fun z => ?_, fun z => ?_⟩
  · have hc : n + 20 ≤ 400 := by
      refine Classical.byContradiction (fun w => z ?_)
      rw [decide_eq_false w]; rfl
    refine mX9_lay2 hi hn (by omega) (fun g1 C1 l1 d1 o1 => ?_)
    have i1 := C1.iv hi
    refine bX10_feed_20 i1 (mX9_lay2 i1 l1 (by omega) (fun g2 C2 l2 d2 o2 => ?_))
    have i2 := C2.iv i1
    refine bX10_feed_28 i2 (mX9_lay2 i2 l2 (by omega) (fun g3 C3 l3 d3 o3 => ?_))
    have i3 := C3.iv i2
    refine bX10_feed_36 i3 (mX9_lay2 i3 l3 (by omega) (fun g4 C4 l4 d4 o4 => ?_))
    have i4 := C4.iv i3
    refine bX10_feed_45 i4 (mX9_lay2 i4 l4 (by omega) (fun g5 C5 l5 d5 o5 => ?_))
    refine bX10_feed_54 (C5.iv i4) ?_
    rw [l5]
    refine k hc g5 ((((C1.tr C2).tr C3).tr C4).tr C5) l5 (fun i hi => ?_) (fun i hi => ?_)
    · rcases (show i / 4 = 0 ∨ i / 4 = 1 ∨ i / 4 = 2 ∨ i / 4 = 3 ∨ i / 4 = 4 from by omega) with c | c | c | c | c
      · rw [o5 _ (by omega), o4 _ (by omega), o3 _ (by omega), o2 _ (by omega), c, show n + i = n + i % 4 from by omega]
        exact d1 _ (by omega)
      · rw [o5 _ (by omega), o4 _ (by omega), o3 _ (by omega), c, show n + i = n + 4 + i % 4 from by omega]
        exact d2 _ (by omega)
      · rw [o5 _ (by omega), o4 _ (by omega), c, show n + i = n + 4 + 4 + i % 4 from by omega]
        exact d3 _ (by omega)
      · rw [o5 _ (by omega), c, show n + i = n + 4 + 4 + 4 + i % 4 from by omega]
        exact d4 _ (by omega)
      · rw [c, show n + i = n + 4 + 4 + 4 + 4 + i % 4 from by omega]
        exact d5 _ (by omega)
    · rw [o5 _ (by omega), o4 _ (by omega), o3 _ (by omega), o2 _ (by omega), o1 _ (by omega)]
  · refine k0 ?_
    refine Classical.byContradiction (fun w => ?_)
    rw [decide_eq_true (by omega)] at z
    exact absurd z (by decide)
theorem mX11_feed2 {n : Nat} {a b c d e : Int32} (hi : Iv h) (hn : gI h 83 9 = iI n) (hn4 : n ≤ 400) (k0 : 400 < n + 20 → Q (.inl (some (.int (-1)))) (pI h 83 0 0))
    (k : n + 20 ≤ 400 → ∀ g, Ce lmS (pI h 83 0 0) g → gI g 83 9 = iI ((n + 20 : Nat) : Int) → (∀ i, i < 20 → gI g 89 (n + i) = byM (a5 a b c d e (i / 4)) (iI (shA (i % 4)))) → (∀ i, i < n ∨ n + 20 ≤ i → gI g 89 i = gI h 89 i) → Q (.inl (some (.int (iI ((n + 20 : Nat) : Int))))) g) : WM G jX11_feed [.ref 83, .int a, .int b, .int c, .int d, .int e] h Q := by
  have hi0 : Iv (pI h 83 0 0) := hi
  have hn0 : gI (pI h 83 0 0) 83 9 = iI n := by rw [gI_pI, if_neg (by omega)]; exact hn
  refine eX11_feed hi ?_
  rw [hn0, n_20, ad_n, n_400, le_n (by omega) (by omega)]
  refine ⟨fun hc => ?_, fun z => k0 (by omega)⟩
  refine mX11_lays2 hi0 hn0 (by omega) (fun g1 C1 l1 d1 o1 => ?_)
  have i1 := C1.iv hi0
  refine bX11_feed_25 i1 (mX11_lays2 i1 l1 (by omega) (fun g2 C2 l2 d2 o2 => ?_))
  have i2 := C2.iv i1
  refine bX11_feed_30 i2 (mX11_lays2 i2 l2 (by omega) (fun g3 C3 l3 d3 o3 => ?_))
  have i3 := C3.iv i2
  refine bX11_feed_35 i3 (mX11_lays2 i3 l3 (by omega) (fun g4 C4 l4 d4 o4 => ?_))
  have i4 := C4.iv i3
  refine bX11_feed_41 i4 (mX11_lays2 i4 l4 (by omega) (fun g5 C5 l5 d5 o5 => ?_))
  refine bX11_feed_47 (C5.iv i4) ?_
  rw [l5]
  refine k hc g5 ((((C1.tr C2).tr C3).tr C4).tr C5) l5 (fun i hi => ?_) (fun i hi => ?_)
  · rcases (show i / 4 = 0 ∨ i / 4 = 1 ∨ i / 4 = 2 ∨ i / 4 = 3 ∨ i / 4 = 4 from by omega) with c | c | c | c | c
    · rw [o5 _ (by omega), o4 _ (by omega), o3 _ (by omega), o2 _ (by omega), c, show n + i = n + i % 4 from by omega]
      exact d1 _ (by omega)
    · rw [o5 _ (by omega), o4 _ (by omega), o3 _ (by omega), c, show n + i = n + 4 + i % 4 from by omega]
      exact d2 _ (by omega)
    · rw [o5 _ (by omega), o4 _ (by omega), c, show n + i = n + 4 + 4 + i % 4 from by omega]
      exact d3 _ (by omega)
    · rw [o5 _ (by omega), c, show n + i = n + 4 + 4 + 4 + i % 4 from by omega]
      exact d4 _ (by omega)
    · rw [c, show n + i = n + 4 + 4 + 4 + 4 + i % 4 from by omega]
      exact d5 _ (by omega)
  · rw [o5 _ (by omega), o4 _ (by omega), o3 _ (by omega), o2 _ (by omega), o1 _ (by omega), gI_pI, if_neg (by omega)]
end FEED2
