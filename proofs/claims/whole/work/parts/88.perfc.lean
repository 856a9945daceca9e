section PERFC
variable {G : GX} {h : mH} {Q : mO → mH → Prop} {W : WL} {st : Nat → Int}
def WR (W : WL) : Prop := (∀ p, p < 4 → (0 ≤ W.1 p ∧ W.1 p ≤ 2) ∧ (2 ≤ W.2.1 p ∧ W.2.1 p ≤ 40) ∧ (0 ≤ W.2.2.1 p ∧ W.2.2.1 p ≤ 99)) ∧ W.2.2.2.1 ≤ 4 ∧ ∀ i, i < W.2.2.2.1 → (0 ≤ W.2.2.2.2.1 i ∧ W.2.2.2.2.1 i ≤ 999) ∧ ∀ a, a < 2 → -20 ≤ W.2.2.2.2.2 i a ∧ W.2.2.2.2.2 i a ≤ 20
/-- frame 56 holds the world and the settings -/
def WX (W : WL) (st : Nat → Int) (g : mH) : Prop := (∀ p, p < 4 → gI g 57 p = iI (W.1 p) ∧ gI g 58 p = iI (W.2.1 p) ∧ gI g 59 p = iI (W.2.2.1 p)) ∧ gI g 56 5 = iI (W.2.2.2.1 : Nat) ∧ (∀ i, i < W.2.2.2.1 → gI g 61 i = iI (W.2.2.2.2.1 i) ∧ ∀ a, a < 2 → gI g 62 (2 * i + a) = iI (W.2.2.2.2.2 i a)) ∧ (∀ i, i < 12 → gI g 60 i = iI (st i)) ∧ FdOk g 56
theorem st_12 (hs : StR st) {i : Nat} (hi : i < 12) : 0 ≤ st i ∧ st i ≤ 99 := by
  have a0 := hs 0 (by omega)
  have a1 := hs 1 (by omega)
  have a2 := hs 2 (by omega)
  have a3 := hs 3 (by omega)
  rcases (show i = 0 ∨ i = 1 ∨ i = 2 ∨ i = 3 ∨ i = 4 ∨ i = 5 ∨ i = 6 ∨ i = 7 ∨ i = 8 ∨ i = 9 ∨ i = 10 ∨ i = 11 by omega) with rfl | rfl | rfl | rfl | rfl | rfl | rfl | rfl | rfl | rfl | rfl | rfl
  all_goals
    simp only [Nat.reduceAdd] at a0 a1 a2 a3
    omega
theorem WX_FR (hW : WR W) (hs : StR st) {g : mH} (hX : WX W st g) : FR g 56 ∧ CR g 56 ∧ (∀ p t, p < 4 → atV g 57 58 59 60 0 p t = aW W st p t) ∧ ∀ ax t, ax < 2 → pnF g 56 ax t = pW W st ax t := by
  obtain ⟨x1, x2, x3, x4, x5⟩ := hX
  obtain ⟨w1, w2, w3⟩ := hW
  have tI : ∀ {x : Int}, -1000 ≤ x → x ≤ 1000 → (iI x).toInt = x := fun h1 h2 => iI_toInt ⟨by omega, by omega⟩
  have e5 : (gI g 56 5).toInt.toNat = W.2.2.2.1 := by rw [x2, tI (by omega) (by omega)]; omega
  have at' : ∀ p t, p < 4 → atV g 57 58 59 60 0 p t = aW W st p t := fun p t hp => by
    have a := w1 p hp
    have b := hs p hp
    unfold atV aW
    rw [Nat.zero_add, Nat.zero_add, Nat.zero_add, (x1 p hp).1, (x1 p hp).2.1, (x1 p hp).2.2, x4 p (by omega), x4 (4 + p) (by omega), x4 (8 + p) (by omega)]
    rw [tI (by omega) (by omega), tI (by omega) (by omega), tI (by omega) (by omega), tI (by omega) (by omega), tI (by omega) (by omega), tI (by omega) (by omega)]
  refine ⟨fun p hp => ?_, ⟨?_, fun i hi => ?_⟩, at', fun ax t hax => ?_⟩
  · have a := w1 p hp
    have b := hs p hp
    unfold PnR rg
    show (_ ≤ (gI g 57 p).toInt ∧ (gI g 57 p).toInt ≤ _) ∧ (_ ≤ (gI g 58 p).toInt ∧ (gI g 58 p).toInt ≤ _) ∧ (_ ≤ (gI g 59 p).toInt ∧ (gI g 59 p).toInt ≤ _) ∧ (_ ≤ (gI g 60 (0 + p)).toInt ∧ (gI g 60 (0 + p)).toInt ≤ _) ∧ (_ ≤ (gI g 60 (0 + (4 + p))).toInt ∧ (gI g 60 (0 + (4 + p))).toInt ≤ _) ∧ (_ ≤ (gI g 60 (0 + (8 + p))).toInt ∧ (gI g 60 (0 + (8 + p))).toInt ≤ _)
    rw [Nat.zero_add, Nat.zero_add, Nat.zero_add, (x1 p hp).1, (x1 p hp).2.1, (x1 p hp).2.2, x4 p (by omega), x4 (4 + p) (by omega), x4 (8 + p) (by omega)]
    rw [tI (by omega) (by omega), tI (by omega) (by omega), tI (by omega) (by omega), tI (by omega) (by omega), tI (by omega) (by omega), tI (by omega) (by omega)]
    omega
  · unfold rg
    rw [x2, tI (by omega) (by omega)]
    omega
  · rw [e5] at hi
    have a := w3 i hi
    have b := x3 i hi
    refine ⟨?_, fun ax hax => ?_⟩
    · unfold rg
      show _ ≤ (gI g 61 i).toInt ∧ (gI g 61 i).toInt ≤ _
      rw [b.1, tI (by omega) (by omega)]
      exact a.1
    · have := a.2 ax hax
      unfold rg
      show _ ≤ (gI g 62 (2 * i + ax)).toInt ∧ (gI g 62 (2 * i + ax)).toInt ≤ _
      rw [b.2 ax hax, tI (by omega) (by omega)]
      exact this
  · unfold pnF swF skF pW
    show atV g 57 58 59 60 0 (2 * ax) t + atV g 57 58 59 60 0 (2 * ax + 1) t + _ = _
    rw [at' (2 * ax) t (by omega), at' (2 * ax + 1) t (by omega), e5]
    congr 1
    refine shI_congr _ (fun i hi => ?_)
    have a := w3 i hi
    have b := x3 i hi
    have c := a.2 ax hax
    refine ⟨?_, ?_⟩
    · show (gI g 61 i).toInt = _
      rw [b.1, tI (by omega) (by omega)]
    · show (gI g 62 (2 * i + ax)).toInt = _
      rw [b.2 ax hax, tI (by omega) (by omega)]
theorem WX_c {g g' : mH} (hC : ∀ o k, (o = 56 ∧ k = 5) ∨ (57 ≤ o ∧ o ≤ 62) → gI g' o k = gI g o k) (hf : FdOk g' 56) (hX : WX W st g) : WX W st g' := by
  obtain ⟨x1, x2, x3, x4, x5⟩ := hX
  exact ⟨fun p hp => ⟨by rw [hC 57 p (by omega)]; exact (x1 p hp).1, by rw [hC 58 p (by omega)]; exact (x1 p hp).2.1, by rw [hC 59 p (by omega)]; exact (x1 p hp).2.2⟩, by rw [hC 56 5 (by omega)]; exact x2, fun i hi => ⟨by rw [hC 61 i (by omega)]; exact (x3 i hi).1, fun a ha => by rw [hC 62 _ (by omega)]; exact (x3 i hi).2 a ha⟩, fun i hi => by rw [hC 60 i (by omega)]; exact x4 i hi, hf⟩
theorem cr_o {o : Nat} (ho : o ≤ 62 ∨ 66 ≤ o) : cr 56 o = false := by
  unfold cr
  simp
  omega
theorem WX_S {g g' : mH} (hS : Sm (cr 56) g g') (hf : FdOk g' 56) (hX : WX W st g) : WX W st g' :=
  WX_c (fun o k ho => hS.gI (cr_o (by omega)) k) hf hX
theorem bx_lt (b : Bool) : bx b < 2 := by cases b <;> decide
theorem cW_b (hW : WR W) (hs : StR st) {g : mH} (hX : WX W st g) (u : Bool) (t : Nat) : cW W st u t ≤ 728 ∧ fX10_cellOf (iI (pW W st (bx u) t)) (iI (pW W st (bx (!u)) t)) = iI (cW W st u t : Nat) := by
  obtain ⟨a, b, _, d⟩ := WX_FR hW hs hX
  have b0 := pnF_b (t := t) a b (bx_lt u)
  have b1 := pnF_b (t := t) a b (bx_lt (!u))
  rw [d _ t (bx_lt _)] at b0 b1
  have ce := ceI_b b0.1 b0.2 b1.1 b1.2
  unfold cW
  refine ⟨by omega, ?_⟩
  rw [cellOf_iI b0.1 b0.2 b1.1 b1.2]
  congr 1
  omega
theorem mX6_pen {ax t : Nat} (hi : Iv h) (hW : WR W) (hs : StR st) (hX : WX W st h) (hax : ax < 2) (ht : t ≤ 9999) (k : ∀ g, Sm (cr 56) h g → WX W st g → Q (.inl (some (.int (iI (pW W st ax t))))) g) : WM G jX2_penAt [.ref 56, .int (iI t), .int (iI ax)] h Q := by
  obtain ⟨a, b, _, d⟩ := WX_FR hW hs hX
  refine mX2_penAt hi rfl hax (by omega) a b hX.2.2.2.2 (fun g S f => ?_)
  rw [d ax t hax]
  exact k g S (WX_S S f hX)
theorem mX6_cell {t : Nat} {u : Bool} (hi : Iv h) (hW : WR W) (hs : StR st) (hX : WX W st h) (ht : t ≤ 9999) (h4 : gI h 55 4 = iI (t : Nat)) (h6 : gI h 55 6 = bL u) (k : ∀ g, Sm (cr 56) h g → WX W st g → Q (.inl (some (.int (iI (cW W st u t : Nat))))) g) : WM G jX6_cell [.ref 55] h Q := by
  have go : ∀ g1, Sm (cr 56) h g1 → WX W st g1 → Vw G jX6_cell 23 [some (.ref 55)] [.int (iI (pW W st (bx u) t))] g1 Q := fun g1 S1 X1 => by
    have i1 := S1.iv hi
    have e4 : gI g1 55 4 = iI (t : Nat) := by rw [S1.gI (o := 55) rfl]; exact h4
    have e6 : gI g1 55 6 = bL u := by rw [S1.gI (o := 55) rfl]; exact h6
    have fin : ∀ g2, Sm (cr 56) g1 g2 → WX W st g2 → Vw G jX6_cell 46 [none] [.int (iI (pW W st (bx (!u)) t)), .int (iI (pW W st (bx u) t))] g2 Q := fun g2 S2 X2 => by
      refine bX6_cell_46 (S2.iv i1) ?_
      rw [(cW_b hW hs X2 u t).2]
      exact k g2 (S1.tr S2) X2
    refine bX6_cell_23 i1 ?_
    rw [e4, e6]
    refine ⟨fun c => ?_, fun c => ?_⟩
    · rw [bL_0] at c
      subst c
      rw [n_1]
      exact mX6_pen i1 hW hs X1 (by omega) ht (fun g2 S2 X2 => fin g2 S2 X2)
    · rw [bL_1] at c
      subst c
      rw [n_0]
      exact mX6_pen i1 hW hs X1 (by omega) ht (fun g2 S2 X2 => fin g2 S2 X2)
  refine eX6_cell hi ?_
  rw [h4, h6]
  refine ⟨fun c => ?_, fun c => ?_⟩
  · rw [bL_0] at c
    subst c
    rw [n_0]
    exact mX6_pen hi hW hs hX (by omega) ht (fun g2 S2 X2 => go g2 S2 X2)
  · rw [bL_1] at c
    subst c
    rw [n_1]
    exact mX6_pen hi hW hs hX (by omega) ht (fun g2 S2 X2 => go g2 S2 X2)
theorem isC_1 {c : Nat} (hc : c ≤ 728) : ¬ fX10_isCell (iI (c : Nat)) = 0 := by
  unfold fX10_isCell
  have c1 : ¬ iI (c : Int) < 0 := by rw [n_0, lt_n (by omega) (by omega)]; omega
  have c2 : ¬ 729 ≤ iI (c : Int) := by rw [n_729, le_n (by omega) (by omega)]; omega
  rw [if_neg c1, if_neg c2]
  decide
theorem cnt_in {m : Nat → Nat} {c : Nat} (hc : c < 729) : cnt (fun x => decide (0 < inM m c x)) 729 = cnt (fun x => decide (0 < m x)) 729 + (if m c = 0 then 1 else 0) := by
  have e : cnt (fun x => decide (0 < inM m c x)) 729 = cnt (fun x => decide (0 < m x) || (c == x)) 729 := cnt_cg _ (fun x _ => by
    unfold inM
    by_cases q : x = c
    · subst q; simp
    · rw [if_neg q]
      have : (c == x) = false := by simp; omega
      rw [this, Bool.or_false])
  rw [e, cnt_set]
  by_cases q : m c = 0
  · rw [if_pos q, if_pos ⟨hc, by simp [q]⟩]
  · rw [if_neg q, if_neg (fun w => q (by simpa using w.2))]
/-- marks and how many cells have some -/
def MkC (m : Nat → Nat) (g : mH) : Prop := (∀ c, c < 729 → gI g 66 c = iI (m c : Nat)) ∧ gI g 55 2 = iI (cnt (fun x => decide (0 < m x)) 729 : Nat)
def mkS (o k : Nat) : Bool := o == 66 || (o == 55 && (k == 2))
theorem mX6_mark {m : Nat → Nat} {c : Nat} (hi : Iv h) (hc : c ≤ 728) (hm : ∀ x, m x ≤ 10000) (hM : MkC m h) (k : ∀ g, Ce mkS h g → MkC (inM m c) g → Q (.inl none) g) : WM G jX6_mark [.ref 55, .int (iI (c : Nat))] h Q := by
  obtain ⟨m1, m2⟩ := hM
  have hmc := hm c
  have cl := cnt_le (fun x => decide (0 < m x)) 729
  refine eX6_mark hi ⟨fun _ => ?_, fun x => absurd x (isC_1 hc)⟩
  rw [ix_n (by omega), m1 c (by omega), n_0, eq_n (by omega) (by omega), m2]
  refine ⟨in_n (by omega) (by omega), fun q => ?_, fun q => ?_⟩
  · refine bX6_mark_27 hi ?_
    rw [ix_n (by omega), m1 c (by omega), n_1, ad_n]
    refine ⟨in_n (by omega) (by omega), in_n (by omega) (by omega), k _ (Ce.rf.pI rfl _) ⟨fun x hx => ?_, ?_⟩⟩
    · rw [gI_pI]
      unfold inM
      by_cases e : x = c
      · rw [if_pos ⟨rfl, e⟩, if_pos e, e]
      · rw [if_neg (fun w => e w.2), if_neg e]; exact m1 x hx
    · rw [gI_pI, if_neg (by omega), cnt_in (by omega), if_neg q, Nat.add_zero]; exact m2
  · have hi2 : Iv (pI h 55 2 (iI (cnt (fun x => decide (0 < m x)) 729 : Nat) + 1)) := hi
    refine bX6_mark_27 hi2 ?_
    rw [ix_n (by omega), gI_pI, if_neg (by omega), m1 c (by omega), n_1, ad_n, ad_n]
    refine ⟨in_n (by omega) (by omega), in_n (by omega) (by omega), k _ ((Ce.rf.pI rfl _).pI rfl _) ⟨fun x hx => ?_, ?_⟩⟩
    · rw [gI_pI]
      unfold inM
      by_cases e : x = c
      · rw [if_pos ⟨rfl, e⟩, if_pos e, e]
      · rw [if_neg (fun w => e w.2), if_neg e, gI_pI, if_neg (by omega)]; exact m1 x hx
    · rw [gI_pI, if_neg (by omega), gI_pI, if_pos ⟨rfl, rfl⟩, cnt_in (by omega), if_pos q]
end PERFC
