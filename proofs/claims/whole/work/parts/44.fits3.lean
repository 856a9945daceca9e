section FITS3
variable {G : GX} {h : mH} {Q : mO → mH → Prop}
theorem fiO_out {o : Nat → Nat → Nat → Nat → Nat} {n near m x y : Nat} {g : mH} (hxy : x ≤ y) (hg : ∀ r, x ≤ r → r < y → dgV m r = false) (hs : fiO o n near m x g) : fiO o n near m y g := by
  obtain ⟨e, rfl⟩ : ∃ e, y = x + e := ⟨y - x, by omega⟩
  unfold fiO at hs ⊢
  rw [cnt_out e hg, fsV_out e hg, fb_out e hg]
  exact hs
theorem fiO_cg {o : Nat → Nat → Nat → Nat → Nat} {n near m x : Nat} {g g' : mH} {S : Nat → Bool} (hS : Sm S g g') (h71 : S 71 = false) (hs : fiO o n near m x g) : fiO o n near m x g' := by
  unfold fiO at hs ⊢
  rw [hS.gI h71, hS.gI h71, hS.gI h71, hS.gI h71]
  exact hs
theorem dg_no {m r : Nat} (hh : m < r / 1000 ∨ m < r / 100 % 10 ∨ m < r / 10 % 10 ∨ m < r % 10) : dgV m r = false := by
  cases hc : dgV m r with
  | false => rfl
  | true =>
    unfold dgV at hc
    simp at hc
    omega
def ofH (o : Nat → Nat → Nat → Nat → Nat) (m n : Nat) (g : mH) : Prop := ∀ ax a b i, ax < 2 → a ≤ m → b ≤ m → i < n → gI g 73 (6 * (36 * ax + (6 * a + b)) + i) = iI (o ax a b i : Nat)
theorem mX1_weighAll {o : Nat → Nat → Nat → Nat → Nat} {n near m a b : Nat} (hi : Iv h) (n6 : n ≤ 6) (hnear : near ≤ 99) (hm : m ≤ 5) (ha : a ≤ m) (hb : b ≤ m)
    (ho : ofH o m n h) (hob : ∀ ax a b i, ax < 2 → a ≤ m → b ≤ m → i < n → o ax a b i ≤ 1000) (hs : fiO o n near m (1000 * a + 100 * b) h)
    (k : ∀ g, Sm wgS h g → fiO o n near m (1000 * a + 100 * (b + 1)) g → Q (.inl none) g) : WM G jX1_weighAll [.ref 71, .int (iI ((6 * a + b : Nat) : Int)), .int (iI n), .int (iI m), .int (iI near)] h Q := by
  refine eX1_weighAll hi ?_
  rw [n_0]
  have L1 : ∀ (c : Nat), c ≤ m → (∀ g, Sm wgS h g → fiO o n near m (1000 * a + 100 * b + 10 * (c + 1)) g → Vw G jX1_weighAll 3 [some (.ref 71), some (.int (iI ((6 * a + b : Nat) : Int))), some (.int (iI n)), some (.int (iI m)), some (.int (iI near)), some (.int (iI ((c + 1 : Nat) : Int))), none] [] g Q) → ∀ (e d : Nat) (g : mH), d + e = m + 1 → Sm wgS h g → fiO o n near m (1000 * a + 100 * b + 10 * c + d) g →
      Vw G jX1_weighAll 12 [some (.ref 71), some (.int (iI ((6 * a + b : Nat) : Int))), some (.int (iI n)), some (.int (iI m)), some (.int (iI near)), some (.int (iI c)), some (.int (iI d))] [] g Q := by
    intro c hcm nx e
    have e1 : iI (c : Int) + 1 = iI ((c + 1 : Nat) : Int) := by rw [n_1, ad_n]
    induction e with
    | zero =>
      intro d g hdm hS hg
      refine bX1_weighAll_12 (hS.iv hi) ⟨fun _ => ?_, fun z => absurd ?_ z⟩
      · rw [e1]
        refine nx g hS (fiO_out (by omega) (fun r h1 h2 => dg_no ?_) hg)
        omega
      · rw [lt_n (by omega) (by omega)]; omega
    | succ e ih =>
      intro d g hdm hS hg
      have e2 : iI (d : Int) + 1 = iI ((d + 1 : Nat) : Int) := by rw [n_1, ad_n]
      have e5 : (6 : Int32) * iI (c : Int) + iI (d : Int) = iI ((6 * c + d : Nat) : Int) := by rw [n_6, mu_n, ad_n]
      refine bX1_weighAll_12 (hS.iv hi) ⟨fun z => ?_, fun _ => ?_⟩
      · rw [lt_n (by omega) (by omega)] at z
        omega
      · rw [e5]
        refine mX1_weigh (hS.iv hi) n6 hnear hm ha hb hcm (by omega) (fun ax a b i h1 h2 h3 h4 => ?_) hob hg (fun g2 hS2 hg2 => ?_)
        · rw [hS.gI (o := 73) rfl]
          exact ho ax a b i h1 h2 h3 h4
        · refine bX1_weighAll_34 (hS2.iv (hS.iv hi)) ?_
          rw [e2]
          exact ih (d + 1) g2 (by omega) (hS.tr hS2) hg2
  have L2 : ∀ (e c : Nat) (g : mH), c + e = m + 1 → Sm wgS h g → fiO o n near m (1000 * a + 100 * b + 10 * c) g → Vw G jX1_weighAll 3 [some (.ref 71), some (.int (iI ((6 * a + b : Nat) : Int))), some (.int (iI n)), some (.int (iI m)), some (.int (iI near)), some (.int (iI c)), none] [] g Q := by
    intro e
    induction e with
    | zero =>
      intro c g hcm hS hg
      refine bX1_weighAll_3 (hS.iv hi) ⟨fun _ => k g hS (fiO_out (by omega) (fun r h1 h2 => dg_no ?_) hg), fun z => absurd ?_ z⟩
      · omega
      · rw [lt_n (by omega) (by omega)]; omega
    | succ e ih =>
      intro c g hcm hS hg
      refine bX1_weighAll_3 (hS.iv hi) ⟨fun z => ?_, fun _ => ?_⟩
      · rw [lt_n (by omega) (by omega)] at z
        omega
      · rw [n_0]
        exact L1 c (by omega) (fun g2 hS2 hg2 => ih (c + 1) g2 (by omega) hS2 hg2) (m + 1) 0 g (by omega) hS hg
  exact L2 (m + 1) 0 h (by omega) Sm.rf hs
def frS (o : Nat) : Bool := fpS o || ((o == 73) || (o == 71))
theorem fpI_rg {h : mH} {p q t : Nat} (hf : FR h 13) (hp : p < 4) (hq : q ≤ 5) : -90 ≤ aP h 14 15 16 17 p q t ∧ aP h 14 15 16 17 p q t ≤ 90 := by
  have fr : PnR h 14 15 16 17 0 p := hf p hp
  have ok := fr.ok
  rw [Nat.zero_add, Nat.zero_add, Nat.zero_add] at ok
  obtain ⟨o1, o2, o3, o4, o5, o6, b1, b2, b3, b4, b5, b6, b7, b8, b9, b10, b11, b12⟩ := ok
  unfold aP atI
  have f := fdN_le b5 (by omega) b11 (t / ((gI h 15 p).toInt + (q : Int)).toNat)
  have u1 := Int.emod_nonneg ((t : Int) + (gI h 17 (4 + p)).toInt) (b := (gI h 15 p).toInt + (q : Int)) (by omega)
  have u2 := Int.emod_lt_of_pos ((t : Int) + (gI h 17 (4 + p)).toInt) (b := (gI h 15 p).toInt + (q : Int)) (by omega)
  have := posI_b b1 b2 u1 u2 f.1
  omega
def oFt (h : mH) (r a : Nat) : Nat → Nat → Nat → Nat → Nat := oA (aP h (r + 1) (r + 2) (r + 3) (r + 4)) (skF h r) (tkF h a) (ptF h a)
theorem oFt_b {h : mH} {m n ax a b i : Nat} (hf : FR h 13) (hc : CR h 13) (hp : PtR h 36 n) (hm : m ≤ 5) (hax : ax < 2) (ha : a ≤ m) (hb : b ≤ m) (hi : i < n) : oFt h 13 36 ax a b i ≤ 1000 := by
  unfold oFt oA
  have h1 := fpI_rg (t := tkF h 36 i) hf (p := 2 * ax) (q := a) (by omega) (by omega)
  have h2 := fpI_rg (t := tkF h 36 i) hf (p := 2 * ax + 1) (q := b) (by omega) (by omega)
  have h3 := skF_b (t := tkF h 36 i) hc hax
  have h4 : -260 ≤ ptF h 36 i ax ∧ ptF h 36 i ax ≤ 260 := (hp.2 i hi).2 ax hax
  show ((aP h 14 15 16 17 (2 * ax) a (tkF h 36 i)) + (aP h 14 15 16 17 (2 * ax + 1) b (tkF h 36 i)) + skF h 13 ax (tkF h 36 i) - ptF h 36 i ax).natAbs ≤ 1000
  omega
theorem mX1_findRows {n near m : Nat} (hi : Iv h) (hnear : near ≤ 99) (hm : m ≤ 5) (hn : gI h 33 3 = iI n) (hp : PtR h 36 n) (hf : FR h 13) (hc : CR h 13) (hfd : FdOk h 13)
    (k : ∀ g, Sm frS h g → FdOk g 13 → fiO (oFt h 13 36) n near m 10000 g → Q (.inl none) g) : WM G jX1_findRows [.ref 71, .ref 13, .ref 33, .int (iI m), .int (iI near)] h Q := by
  have hk13 : kd 13 = (2, 11) := rfl
  have hk33 : kd 33 = (3, 7) := rfl
  have n6 := hp.1
  have hob := fun ax a b i h1 h2 h3 h4 => oFt_b (m := m) (n := n) (ax := ax) (a := a) (b := b) (i := i) hf hc hp hm h1 h2 h3 h4
  refine eX1_findRows hi hk13 hk33 (mX1_findPlaces hi hm hn hp hf hfd (fun g1 hg1 => ?_))
  obtain ⟨S1, fd1, st1, pe1, pl1⟩ := hg1
  have i1 := S1.iv hi
  have w1 : Sm frS h g1 := S1.wk (fun o ho => by unfold frS at ho; simp at ho; exact ho.1)
  have tk1 : tkF g1 36 = tkF h 36 := funext fun i => by unfold tkF; rw [S1.gI (o := 36) rfl]
  have pt1 : ptF g1 36 = ptF h 36 := funext fun i => funext fun ax => by unfold ptF; rw [S1.gI (o := 36) rfl]
  have cr1 : CR g1 13 := by
    refine ⟨by rw [S1.gI (o := 13) rfl]; exact hc.1, fun i hi => ?_⟩
    rw [S1.gI (o := 13) rfl] at hi
    rw [S1.gI (o := 13 + 5) rfl]
    refine ⟨(hc.2 i hi).1, fun a ha => ?_⟩
    rw [S1.gI (o := 13 + 6) rfl]
    exact (hc.2 i hi).2 a ha
  have sk1 : skF g1 13 = skF h 13 := funext fun ax => funext fun t => by
    unfold skF
    rw [S1.gI (o := 13) rfl]
    exact shI_congr _ (fun j _ => ⟨by rw [S1.gI (o := 13 + 5) rfl], by rw [S1.gI (o := 13 + 6) rfl]⟩)
  have hp1 : PtR g1 36 n := ⟨n6, fun i hi => by
    rw [S1.gI (o := 36) rfl]
    refine ⟨(hp.2 i hi).1, fun ax hax => ?_⟩
    rw [S1.gI (o := 36) rfl]
    exact (hp.2 i hi).2 ax hax⟩
  have hn1 : gI g1 33 3 = iI n := by rw [S1.gI (o := 33) rfl]; exact hn
  have hP1 : ∀ p q i, p < 4 → q ≤ m → i < n → gI g1 72 (6 * (6 * p + q) + i) = iI (aP h 14 15 16 17 p q (tkF g1 36 i)) ∧ -90 ≤ aP h 14 15 16 17 p q (tkF g1 36 i) ∧ aP h 14 15 16 17 p q (tkF g1 36 i) ≤ 90 := fun p q i h1 h2 h3 => by
    rw [tk1]
    exact ⟨pl1 p q i h1 h2 h3 (by unfold fpD; omega), fpI_rg hf h1 (by omega)⟩
  refine bX1_findRows_7 i1 hk13 hk33 ?_
  rw [show (0 : Int32) = iI ((0 : Nat) : Int) from by decide]
  refine mX1_findOffs i1 hm (by omega) hn1 hp1 cr1 hP1 (fun g2 hg2 => ?_)
  obtain ⟨S2, out2, of2⟩ := hg2
  have i2 := S2.iv i1
  have w2 : Sm frS h g2 := w1.tr (S2.wk (fun o ho => by unfold frS at ho; simp at ho ⊢; omega))
  have tk2 : tkF g2 36 = tkF h 36 := by rw [← tk1]; exact funext fun i => by unfold tkF; rw [S2.gI (o := 36) rfl]
  have pt2 : ptF g2 36 = ptF h 36 := by rw [← pt1]; exact funext fun i => funext fun ax => by unfold ptF; rw [S2.gI (o := 36) rfl]
  have cr2 : CR g2 13 := CR_cg S2 (by intro d hd; simp; omega) cr1
  have sk2 : skF g2 13 = skF h 13 := by
    rw [← sk1]
    refine funext fun ax => funext fun t => ?_
    unfold skF
    rw [S2.gI (o := 13) rfl]
    exact shI_congr _ (fun j _ => ⟨by rw [S2.gI (o := 13 + 5) rfl], by rw [S2.gI (o := 13 + 6) rfl]⟩)
  have hp2 : PtR g2 36 n := ⟨n6, fun i hi => by
    rw [S2.gI (o := 36) rfl]
    refine ⟨(hp1.2 i hi).1, fun ax hax => ?_⟩
    rw [S2.gI (o := 36) rfl]
    exact (hp1.2 i hi).2 ax hax⟩
  have hn2 : gI g2 33 3 = iI n := by rw [S2.gI (o := 33) rfl]; exact hn1
  have hP2 : ∀ p q i, p < 4 → q ≤ m → i < n → gI g2 72 (6 * (6 * p + q) + i) = iI (aP h 14 15 16 17 p q (tkF g2 36 i)) ∧ -90 ≤ aP h 14 15 16 17 p q (tkF g2 36 i) ∧ aP h 14 15 16 17 p q (tkF g2 36 i) ≤ 90 := fun p q i h1 h2 h3 => by
    rw [S2.gI (o := 72) rfl, tk2]
    have := hP1 p q i h1 h2 h3
    rw [tk1] at this
    exact this
  refine bX1_findRows_15 i2 hk13 hk33 ?_
  rw [show (1 : Int32) = iI ((1 : Nat) : Int) from by decide]
  refine mX1_findOffs i2 hm (by omega) hn2 hp2 cr2 hP2 (fun g3 hg3 => ?_)
  obtain ⟨S3, out3, of3⟩ := hg3
  have i3 := S3.iv i2
  have w3 : Sm frS h g3 := w2.tr (S3.wk (fun o ho => by unfold frS at ho; simp at ho ⊢; omega))
  have hn3 : gI g3 33 3 = iI n := by rw [S3.gI (o := 33) rfl]; exact hn2
  have fd3 : FdOk g3 13 := FdOk_cg S3 (by intro d d1 d2; simp; omega) (FdOk_cg S2 (by intro d d1 d2; simp; omega) fd1)
  rw [tk1, pt1, sk1] at of2
  rw [tk2, pt2, sk2] at of3
  have hO : ofH (oFt h 13 36) m n g3 := by
    intro ax a b i h1 h2 h3 h4
    by_cases hax : ax = 0
    · subst hax
      rw [out3 _ (by omega)]
      exact of2 i a b h4 h2 h3 (by unfold fpD; omega)
    · have : ax = 1 := by omega
      subst this
      exact of3 i a b h4 h2 h3 (by unfold fpD; omega)
  refine bX1_findRows_23 i3 hk33 ?_
  generalize hg4 : pI (pI (pI (pI g3 71 0 0) 71 1 (-1)) 71 2 (-1)) 71 3 0 = g4
  have S4 : Sm wgS g3 g4 := by rw [← hg4]; exact (((Sm.rf.pI rfl _ _).pI rfl _ _).pI rfl _ _).pI rfl _ _
  have st4 : fiO (oFt h 13 36) n near m 0 g4 := by
    refine ⟨?_, ?_, ?_, ?_⟩
    · rw [← hg4, gI_pI, if_neg (by omega), gI_pI, if_neg (by omega), gI_pI, if_neg (by omega), gI_pI, if_pos ⟨rfl, rfl⟩]; exact n_0
    · rw [← hg4, gI_pI, if_neg (by omega), gI_pI, if_neg (by omega), gI_pI, if_pos ⟨rfl, rfl⟩]; exact m1_iI
    · rw [← hg4, gI_pI, if_neg (by omega), gI_pI, if_pos ⟨rfl, rfl⟩]; exact m1_iI
    · rw [← hg4, gI_pI, if_pos ⟨rfl, rfl⟩]; exact n_0
  clear hg4
  have i4 := S4.iv i3
  rw [n_0]
  have okk : ∀ g, Sm wgS g4 g → Iv g ∧ gI g 33 3 = iI n ∧ ofH (oFt h 13 36) m n g := fun g hS => ⟨hS.iv i4, by rw [hS.gI (o := 33) rfl, S4.gI (o := 33) rfl]; exact hn3, fun ax a b i h1 h2 h3 h4 => by
    rw [hS.gI (o := 73) rfl, S4.gI (o := 73) rfl]
    exact hO ax a b i h1 h2 h3 h4⟩
  have L1 : ∀ (a : Nat), a ≤ m → (∀ g, Sm wgS g4 g → fiO (oFt h 13 36) n near m (1000 * (a + 1)) g → Vw G jX1_findRows 46 [some (.ref 71), none, some (.ref 33), some (.int (iI m)), some (.int (iI near)), some (.int (iI ((a + 1 : Nat) : Int))), none] [] g Q) → ∀ (e b : Nat) (g : mH), b + e = m + 1 → Sm wgS g4 g → fiO (oFt h 13 36) n near m (1000 * a + 100 * b) g →
      Vw G jX1_findRows 55 [some (.ref 71), none, some (.ref 33), some (.int (iI m)), some (.int (iI near)), some (.int (iI a)), some (.int (iI b))] [] g Q := by
    intro a ham nx e
    have e1 : iI (a : Int) + 1 = iI ((a + 1 : Nat) : Int) := by rw [n_1, ad_n]
    induction e with
    | zero =>
      intro b g hbm hS hg
      refine bX1_findRows_55 (okk g hS).1 hk33 ⟨fun _ => ?_, fun z => absurd ?_ z⟩
      · rw [e1]
        refine nx g hS (fiO_out (by omega) (fun r h1 h2 => dg_no ?_) hg)
        omega
      · rw [lt_n (by omega) (by omega)]; omega
    | succ e ih =>
      intro b g hbm hS hg
      obtain ⟨gi, gn, go⟩ := okk g hS
      have e2 : iI (b : Int) + 1 = iI ((b + 1 : Nat) : Int) := by rw [n_1, ad_n]
      have e5 : (6 : Int32) * iI (a : Int) + iI (b : Int) = iI ((6 * a + b : Nat) : Int) := by rw [n_6, mu_n, ad_n]
      refine bX1_findRows_55 gi hk33 ⟨fun z => ?_, fun _ => ?_⟩
      · rw [lt_n (by omega) (by omega)] at z
        omega
      · rw [e5, gn]
        refine mX1_weighAll gi n6 hnear hm ham (by omega) go hob hg (fun g2 hS2 hg2 => ?_)
        refine bX1_findRows_80 (hS2.iv gi) hk33 ?_
        rw [e2]
        exact ih (b + 1) g2 (by omega) (hS.tr hS2) hg2
  have L2 : ∀ (e a : Nat) (g : mH), a + e = m + 1 → Sm wgS g4 g → fiO (oFt h 13 36) n near m (1000 * a) g → Vw G jX1_findRows 46 [some (.ref 71), none, some (.ref 33), some (.int (iI m)), some (.int (iI near)), some (.int (iI a)), none] [] g Q := by
    intro e
    induction e with
    | zero =>
      intro a g ham hS hg
      refine bX1_findRows_46 (okk g hS).1 hk33 ⟨fun _ => k g ?_ ?_ (fiO_out (by omega) (fun r h1 h2 => dg_no ?_) hg), fun z => absurd ?_ z⟩
      · exact w3.tr ((S4.tr hS).wk (fun o ho => by unfold frS at ho; unfold wgS; simp at ho ⊢; omega))
      · exact FdOk_cg (S4.tr hS) (by intro d d1 d2; unfold wgS; simp; omega) fd3
      · omega
      · rw [lt_n (by omega) (by omega)]; omega
    | succ e ih =>
      intro a g ham hS hg
      refine bX1_findRows_46 (okk g hS).1 hk33 ⟨fun z => ?_, fun _ => ?_⟩
      · rw [lt_n (by omega) (by omega)] at z
        omega
      · rw [n_0]
        exact L1 a (by omega) (fun g2 hS2 hg2 => ih (a + 1) g2 (by omega) hS2 hg2) (m + 1) 0 g (by omega) hS hg
  exact L2 (m + 1) 0 g4 (by omega) Sm.rf st4
end FITS3
