section FEED
variable {G : GX} {h : mH} {Q : mO → mH → Prop}
theorem sy_x (u : BitVec 32) : u.signExtend 8 = u.setWidth 8 := BitVec.signExtend_eq_setWidth_of_le _ (by omega)
theorem sy_255 : ∀ i, i < 32 → (255#32).getLsbD i = decide (i < 8) := by decide
theorem sy_0 (v : Int32) : (Int32.toInt8 ((Int32.toInt8 ((v.toUInt32 >>> (Int32.toUInt32 (iI 0) &&& Int32.toUInt32 31)).toInt32)).toInt32)).toInt32.toBitVec = (((v.toBitVec >>> 0).setWidth 8)).signExtend 32 ∧ ((v >>> (iI 0 &&& 31)) &&& (255 : Int32)).toBitVec = (((v.toBitVec >>> 0).setWidth 8)).setWidth 32 := by
  refine ⟨by simp [sy_x, iI], ?_⟩
  apply BitVec.eq_of_getLsbD_eq
  intro i hi
  simp [iI]
  rw [sy_255 i hi]
  by_cases c : i < 8 <;> simp [c, hi]
theorem sy_8 (v : Int32) : (Int32.toInt8 ((Int32.toInt8 ((v.toUInt32 >>> (Int32.toUInt32 (iI 8) &&& Int32.toUInt32 31)).toInt32)).toInt32)).toInt32.toBitVec = (((v.toBitVec >>> 8).setWidth 8)).signExtend 32 ∧ ((v >>> (iI 8 &&& 31)) &&& (255 : Int32)).toBitVec = (((v.toBitVec >>> 8).setWidth 8)).setWidth 32 := by
  refine ⟨by simp [sy_x, iI], ?_⟩
  apply BitVec.eq_of_getLsbD_eq
  intro i hi
  simp [iI]
  rw [sy_255 i hi, BitVec.getLsbD_sshiftRight]
  by_cases c : i < 8
  · rw [if_pos (by omega)]
    simp [c, hi]
  · simp [c]
theorem sy_16 (v : Int32) : (Int32.toInt8 ((Int32.toInt8 ((v.toUInt32 >>> (Int32.toUInt32 (iI 16) &&& Int32.toUInt32 31)).toInt32)).toInt32)).toInt32.toBitVec = (((v.toBitVec >>> 16).setWidth 8)).signExtend 32 ∧ ((v >>> (iI 16 &&& 31)) &&& (255 : Int32)).toBitVec = (((v.toBitVec >>> 16).setWidth 8)).setWidth 32 := by
  refine ⟨by simp [sy_x, iI], ?_⟩
  apply BitVec.eq_of_getLsbD_eq
  intro i hi
  simp [iI]
  rw [sy_255 i hi, BitVec.getLsbD_sshiftRight]
  by_cases c : i < 8
  · rw [if_pos (by omega)]
    simp [c, hi]
  · simp [c]
theorem sy_24 (v : Int32) : (Int32.toInt8 ((Int32.toInt8 ((v.toUInt32 >>> (Int32.toUInt32 (iI 24) &&& Int32.toUInt32 31)).toInt32)).toInt32)).toInt32.toBitVec = (((v.toBitVec >>> 24).setWidth 8)).signExtend 32 ∧ ((v >>> (iI 24 &&& 31)) &&& (255 : Int32)).toBitVec = (((v.toBitVec >>> 24).setWidth 8)).setWidth 32 := by
  refine ⟨by simp [sy_x, iI], ?_⟩
  apply BitVec.eq_of_getLsbD_eq
  intro i hi
  simp [iI]
  rw [sy_255 i hi, BitVec.getLsbD_sshiftRight]
  by_cases c : i < 8
  · rw [if_pos (by omega)]
    simp [c, hi]
  · simp [c]
theorem by_8 (u : BitVec 8) : (u.signExtend 32).toInt = u.toInt ∧ ((u.setWidth 32).toInt = u.toInt % 256) ∧ -128 ≤ u.toInt ∧ u.toInt ≤ 127 := by
  have h1 : (u.signExtend 32).toInt = u.toInt := BitVec.toInt_signExtend_of_le (by omega)
  have h2 : -128 ≤ u.toInt ∧ u.toInt ≤ 127 := by
    have a := BitVec.le_toInt u
    have b := BitVec.toInt_lt (x := u)
    omega
  refine ⟨h1, ?_, h2.1, h2.2⟩
  have hn : u.toNat < 256 := u.isLt
  have hs : (u.setWidth 32).toNat = u.toNat := by rw [BitVec.toNat_setWidth]; omega
  rw [BitVec.toInt_eq_toNat_cond, hs, if_pos (by omega), BitVec.toInt_eq_toNat_cond]
  split <;> omega
def byC (v : Int32) (s : Int32) : Int32 := (Int32.toInt8 ((Int32.toInt8 ((v.toUInt32 >>> (Int32.toUInt32 s &&& Int32.toUInt32 31)).toInt32)).toInt32)).toInt32
def byM (v : Int32) (s : Int32) : Int32 := (v >>> (s &&& 31)) &&& (255 : Int32)
/-- a byte as both have it -/
def byR (x y : Int32) : Prop := ∃ z : Int, -128 ≤ z ∧ z ≤ 127 ∧ x = iI z ∧ y = iI (z % 256)
theorem by_of {x y : Int32} {u : BitVec 8} (h1 : x.toBitVec = u.signExtend 32) (h2 : y.toBitVec = u.setWidth 32) : byR x y := by
  obtain ⟨a, b, c, d⟩ := by_8 u
  refine ⟨u.toInt, c, d, ?_, ?_⟩
  · rw [← iI_self x]
    show iI x.toBitVec.toInt = _
    rw [h1, a]
  · rw [← iI_self y]
    show iI y.toBitVec.toInt = _
    rw [h2, b]
def shA (q : Nat) : Int := 24 - 8 * (q : Int)
theorem by_rel (v : Int32) (q : Nat) (hq : q < 4) : byR (byC v (iI (shA q))) (byM v (iI (shA q))) := by
  rcases (show q = 0 ∨ q = 1 ∨ q = 2 ∨ q = 3 from by omega) with rfl | rfl | rfl | rfl
  · exact by_of (sy_24 v).1 (sy_24 v).2
  · exact by_of (sy_16 v).1 (sy_16 v).2
  · exact by_of (sy_8 v).1 (sy_8 v).2
  · exact by_of (sy_0 v).1 (sy_0 v).2
def lyS (o k : Nat) : Bool := o == 2 || (o == 1 && (k == 1))
theorem mX9_lay {n : Nat} {v : Int32} (hi : Iv h) (hn : gI h 1 1 = iI n) (hb : n + 4 ≤ 400) (k : ∀ g, Ce lyS h g → gI g 1 1 = iI ((n + 4 : Nat) : Int) → (∀ q, q < 4 → gI g 2 (n + q) = byC v (iI (shA q))) → (∀ i, i < n → gI g 2 i = gI h 2 i) → Q (.inl none) g) : WM G jX9_lay [.ref 1, .int v] h Q := by
  refine eX9_lay hi ?_
  have loop : ∀ (d q : Nat) (g : mH), q + d = 4 → Ce lyS h g → gI g 1 1 = iI ((n + q : Nat) : Int) → (∀ q', q' < q → gI g 2 (n + q') = byC v (iI (shA q'))) → (∀ i, i < n → gI g 2 i = gI h 2 i) → Vw G jX9_lay 3 [some (.ref 1), some (.int v), some (.int (iI (shA q)))] [] g Q := by
    intro d
    induction d with
    | zero =>
      intro q g hq hC hl hd ho
      have : q = 4 := by omega
      subst this
      exact bX9_lay_3 (hC.iv hi) ⟨fun _ => k g hC hl hd ho, fun z => absurd (by decide) z⟩
    | succ d ih =>
      intro q g hq hC hl hd ho
      have e1 : iI (shA q) + (-8) = iI (shA (q + 1)) := by
        rw [show (-8 : Int32) = iI (-8) from by decide, iI_add]
        unfold shA
        congr 1
        omega
      refine bX9_lay_3 (hC.iv hi) ⟨fun z => ?_, fun _ => ⟨fun z => ?_, fun _ => ?_⟩⟩
      · unfold shA at z
        rw [lt1_iI (by omega) (by omega)] at z
        omega
      · rw [hl, n_400, le_n (by omega) (by omega)] at z
        omega
      · have r : ∀ w, gI (pI g 2 (n + q) w) 1 1 = iI ((n + q : Nat) : Int) := fun w => by rw [gI_pI, if_neg (by omega)]; exact hl
        rw [hl, ix_n (by omega), e1, r, n_1, ad_n]
        refine ⟨in_n (by omega) (by omega), ih (q + 1) _ (by omega) ((hC.pI rfl _).pI rfl _) (by rw [gI_pI, if_pos ⟨rfl, rfl⟩]; rfl) (fun q' hq' => ?_) (fun i hi => ?_)⟩
        · rw [gI_pI, if_neg (by omega), gI_pI]
          by_cases c : q' = q
          · subst c
            rw [if_pos ⟨rfl, rfl⟩]; rfl
          · rw [if_neg (by omega)]
            exact hd q' (by omega)
        · rw [gI_pI, if_neg (by omega), gI_pI, if_neg (by omega)]
          exact ho i hi
  exact loop 4 0 h (by omega) Ce.rf hn (fun q' hq' => absurd hq' (by omega)) (fun _ _ => rfl)
def lmS (o k : Nat) : Bool := o == 89 || (o == 83 && (k == 9))
theorem mX11_lays {n : Nat} {v : Int32} (hi : Iv h) (hn : gI h 83 9 = iI n) (hb : n + 4 ≤ 400) (k : ∀ g, Ce lmS h g → gI g 83 9 = iI ((n + 4 : Nat) : Int) → (∀ q, q < 4 → gI g 89 (n + q) = byM v (iI (shA q))) → (∀ i, i < n → gI g 89 i = gI h 89 i) → Q (.inl none) g) : WM G jX11_lays [.ref 83, .int v] h Q := by
  refine eX11_lays hi ?_
  have loop : ∀ (d q : Nat) (g : mH), q + d = 4 → Ce lmS h g → gI g 83 9 = iI ((n + q : Nat) : Int) → (∀ q', q' < q → gI g 89 (n + q') = byM v (iI (shA q'))) → (∀ i, i < n → gI g 89 i = gI h 89 i) → Vw G jX11_lays 3 [some (.ref 83), some (.int v), some (.int (iI (shA q)))] [] g Q := by
    intro d
    induction d with
    | zero =>
      intro q g hq hC hl hd ho
      have : q = 4 := by omega
      subst this
      exact bX11_lays_3 (hC.iv hi) ⟨fun _ => k g hC hl hd ho, fun z => absurd (by decide) z⟩
    | succ d ih =>
      intro q g hq hC hl hd ho
      have e1 : iI (shA q) + (-8) = iI (shA (q + 1)) := by
        rw [show (-8 : Int32) = iI (-8) from by decide, iI_add]
        unfold shA
        congr 1
        omega
      refine bX11_lays_3 (hC.iv hi) ⟨fun z => ?_, fun _ => ?_⟩
      · unfold shA at z
        rw [lt1_iI (by omega) (by omega)] at z
        omega
      · have r : ∀ w, gI (pI g 89 (n + q) w) 83 9 = iI ((n + q : Nat) : Int) := fun w => by rw [gI_pI, if_neg (by omega)]; exact hl
        rw [hl, ix_n (by omega), e1, r, n_1, ad_n]
        refine ⟨in_n (by omega) (by omega), ih (q + 1) _ (by omega) ((hC.pI rfl _).pI rfl _) (by rw [gI_pI, if_pos ⟨rfl, rfl⟩]; rfl) (fun q' hq' => ?_) (fun i hi => ?_)⟩
        · rw [gI_pI, if_neg (by omega), gI_pI]
          by_cases c : q' = q
          · subst c
            rw [if_pos ⟨rfl, rfl⟩]; rfl
          · rw [if_neg (by omega)]
            exact hd q' (by omega)
        · rw [gI_pI, if_neg (by omega), gI_pI, if_neg (by omega)]
          exact ho i hi
  exact loop 4 0 h (by omega) Ce.rf hn (fun q' hq' => absurd hq' (by omega)) (fun _ _ => rfl)
def a5 (a b c d e : Int32) (j : Nat) : Int32 := if j = 0 then a else if j = 1 then b else if j = 2 then c else if j = 3 then d else e
theorem mX10_feed {n : Nat} {a b c d e : Int32} (hi : Iv h) (hn : gI h 1 1 = iI n) (hn4 : n ≤ 400) (k0 : 400 < n + 20 → Q (.inl (some (.int (-1)))) h)
    (k : n + 20 ≤ 400 → ∀ g, Ce lyS h g → gI g 1 1 = iI ((n + 20 : Nat) : Int) → (∀ i, i < 20 → gI g 2 (n + i) = byC (a5 a b c d e (i / 4)) (iI (shA (i % 4)))) → (∀ i, i < n → gI g 2 i = gI h 2 i) → Q (.inl (some (.int (iI ((n + 20 : Nat) : Int))))) g) : WM G jX10_feed [.ref 0, .int a, .int b, .int c, .int d, .int e] h Q := by
  have hr : fX9_hasRoom h = bL (decide (n + 20 ≤ 400)) := by
    unfold fX9_hasRoom bL
    rw [hn, n_20, ad_n, n_400]
    by_cases c : n + 20 ≤ 400
    · rw [if_neg (fun z => by rw [lt_n (by omega) (by omega)] at z; omega), decide_eq_true c]; rfl
    · rw [if_pos ((lt_n (by omega) (by omega)).mpr (by omega)), decide_eq_false c]; rfl
  refine eX10_feed hi ?_
  rw [hr]
  refine ⟨fun z => ?_, fun z => ?_⟩
  · have hc : n + 20 ≤ 400 := by
      refine Classical.byContradiction (fun w => z ?_)
      rw [decide_eq_false w]; rfl
    refine mX9_lay hi hn (by omega) (fun g1 C1 l1 d1 o1 => ?_)
    have i1 := C1.iv hi
    refine bX10_feed_20 i1 (mX9_lay i1 l1 (by omega) (fun g2 C2 l2 d2 o2 => ?_))
    have i2 := C2.iv i1
    refine bX10_feed_28 i2 (mX9_lay i2 l2 (by omega) (fun g3 C3 l3 d3 o3 => ?_))
    have i3 := C3.iv i2
    refine bX10_feed_36 i3 (mX9_lay i3 l3 (by omega) (fun g4 C4 l4 d4 o4 => ?_))
    have i4 := C4.iv i3
    refine bX10_feed_45 i4 (mX9_lay i4 l4 (by omega) (fun g5 C5 l5 d5 o5 => ?_))
    refine bX10_feed_54 (C5.iv i4) ?_
    rw [l5]
    refine k hc g5 ((((C1.tr C2).tr C3).tr C4).tr C5) l5 (fun i hi => ?_) (fun i hi => ?_)
    · rcases (show i / 4 = 0 ∨ i / 4 = 1 ∨ i / 4 = 2 ∨ i / 4 = 3 ∨ i / 4 = 4 from by omega) with c | c | c | c | c
      · rw [o5 _ (by omega), o4 _ (by omega), o3 _ (by omega), o2 _ (by omega), c, show n + i = n + i % 4 from by omega]
        exact d1 _ (by omega)
      · rw [o5 _ (by omega), o4 _ (by omega), o3 _ (by omega), c, show n + i = n + 4 + i % 4 from by omega]
        exact d2 _ (by omega)
      · rw [o5 _ (by omega), o4 _ (by omega), c, show n + i = n + 4 + 4 + i % 4 from by omega]
        exact d3 _ (by omega)
      · rw [o5 _ (by omega), c, show n + i = n + 4 + 4 + 4 + i % 4 from by omega]
        exact d4 _ (by omega)
      · rw [c, show n + i = n + 4 + 4 + 4 + 4 + i % 4 from by omega]
        exact d5 _ (by omega)
    · rw [o5 _ (by omega), o4 _ (by omega), o3 _ (by omega), o2 _ (by omega), o1 _ hi]
  · refine k0 ?_
    refine Classical.byContradiction (fun w => ?_)
    rw [decide_eq_true (by omega)] at z
    exact absurd z (by decide)
theorem mX11_feed {n : Nat} {a b c d e : Int32} (hi : Iv h) (hn : gI h 83 9 = iI n) (hn4 : n ≤ 400) (k0 : 400 < n + 20 → Q (.inl (some (.int (-1)))) (pI h 83 0 0))
    (k : n + 20 ≤ 400 → ∀ g, Ce lmS (pI h 83 0 0) g → gI g 83 9 = iI ((n + 20 : Nat) : Int) → (∀ i, i < 20 → gI g 89 (n + i) = byM (a5 a b c d e (i / 4)) (iI (shA (i % 4)))) → (∀ i, i < n → gI g 89 i = gI h 89 i) → Q (.inl (some (.int (iI ((n + 20 : Nat) : Int))))) g) : WM G jX11_feed [.ref 83, .int a, .int b, .int c, .int d, .int e] h Q := by
  have hi0 : Iv (pI h 83 0 0) := hi
  have hn0 : gI (pI h 83 0 0) 83 9 = iI n := by rw [gI_pI, if_neg (by omega)]; exact hn
  refine eX11_feed hi ?_
  rw [hn0, n_20, ad_n, n_400, le_n (by omega) (by omega)]
  refine ⟨fun hc => ?_, fun z => k0 (by omega)⟩
  refine mX11_lays hi0 hn0 (by omega) (fun g1 C1 l1 d1 o1 => ?_)
  have i1 := C1.iv hi0
  refine bX11_feed_25 i1 (mX11_lays i1 l1 (by omega) (fun g2 C2 l2 d2 o2 => ?_))
  have i2 := C2.iv i1
  refine bX11_feed_30 i2 (mX11_lays i2 l2 (by omega) (fun g3 C3 l3 d3 o3 => ?_))
  have i3 := C3.iv i2
  refine bX11_feed_35 i3 (mX11_lays i3 l3 (by omega) (fun g4 C4 l4 d4 o4 => ?_))
  have i4 := C4.iv i3
  refine bX11_feed_41 i4 (mX11_lays i4 l4 (by omega) (fun g5 C5 l5 d5 o5 => ?_))
  refine bX11_feed_47 (C5.iv i4) ?_
  rw [l5]
  refine k hc g5 ((((C1.tr C2).tr C3).tr C4).tr C5) l5 (fun i hi => ?_) (fun i hi => ?_)
  · rcases (show i / 4 = 0 ∨ i / 4 = 1 ∨ i / 4 = 2 ∨ i / 4 = 3 ∨ i / 4 = 4 from by omega) with c | c | c | c | c
    · rw [o5 _ (by omega), o4 _ (by omega), o3 _ (by omega), o2 _ (by omega), c, show n + i = n + i % 4 from by omega]
      exact d1 _ (by omega)
    · rw [o5 _ (by omega), o4 _ (by omega), o3 _ (by omega), c, show n + i = n + 4 + i % 4 from by omega]
      exact d2 _ (by omega)
    · rw [o5 _ (by omega), o4 _ (by omega), c, show n + i = n + 4 + 4 + i % 4 from by omega]
      exact d3 _ (by omega)
    · rw [o5 _ (by omega), c, show n + i = n + 4 + 4 + 4 + i % 4 from by omega]
      exact d4 _ (by omega)
    · rw [c, show n + i = n + 4 + 4 + 4 + 4 + i % 4 from by omega]
      exact d5 _ (by omega)
  · rw [o5 _ (by omega), o4 _ (by omega), o3 _ (by omega), o2 _ (by omega), o1 _ hi, gI_pI, if_neg (by omega)]
end FEED
