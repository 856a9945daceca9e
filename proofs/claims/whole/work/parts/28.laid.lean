section LAID
variable {G : GX} {h : mH} {Q : mO → mH → Prop}
/-- the rows of a frame that copy() writes -/
def mr (r o : Nat) : Bool := decide (r ≤ o ∧ o ≤ r + 6)
/-- frame a of h' is frame b of h -/
def SmF (h h' : mH) (a b : Nat) : Prop := (∀ k, k < 4 → gI h' (a + 1) k = gI h (b + 1) k ∧ gI h' (a + 2) k = gI h (b + 2) k ∧ gI h' (a + 3) k = gI h (b + 3) k ∧ gI h' (a + 5) k = gI h (b + 5) k) ∧ (∀ k, k < 12 → gI h' (a + 4) k = gI h (b + 4) k) ∧ (∀ k, k < 8 → gI h' (a + 6) k = gI h (b + 6) k) ∧ gI h' a 4 = gI h b 4 ∧ gI h' a 5 = gI h b 5
theorem cpy_lt {f g : Nat → Int32} {n k : Nat} (hk : k < n) : va_cpy f g 0 0 n k = f k := by
  unfold va_cpy
  rw [if_pos (by omega)]
  congr 1; omega
theorem mX2_copy {a b : Nat} (hab : (a = 13 ∧ b = 3) ∨ (a = 3 ∧ b = 13) ∨ (a = 23 ∧ b = 3) ∨ (a = 56 ∧ b = 3)) (hi : Iv h) (k : ∀ h', Sm (mr a) h h' → SmF h h' a b → Q (.inl none) h') : WM G jX2_copy [.ref a, .ref b] h Q := by
  have ka : kd a = (2, 11) := by rcases hab with ⟨rfl, _⟩ | ⟨rfl, _⟩ | ⟨rfl, _⟩ | ⟨rfl, _⟩ <;> rfl
  have kb : kd b = (2, 11) := by rcases hab with ⟨_, rfl⟩ | ⟨_, rfl⟩ | ⟨_, rfl⟩ | ⟨_, rfl⟩ <;> rfl
  have hne : ∀ i j : Nat, i ≤ 6 → j ≤ 6 → b + i ≠ a + j := by rcases hab with ⟨rfl, rfl⟩ | ⟨rfl, rfl⟩ | ⟨rfl, rfl⟩ | ⟨rfl, rfl⟩ <;> intros <;> omega
  refine eX2_copy hi ka kb (k _ ?_ ?_)
  · have m : ∀ d, d ≤ 6 → mr a (a + d) = true := fun d hd => by unfold mr; simp; omega
    exact ((((((((Sm.rf.pA (m 1 (by omega)) _).pA (m 2 (by omega)) _).pA (m 3 (by omega)) _).pA (m 4 (by omega)) _).pI (m 0 (by omega)) _ _).pI (m 0 (by omega)) _ _).pA (m 5 (by omega)) _).pA (m 6 (by omega)) _)
  · clear k
    rcases hab with ⟨rfl, rfl⟩ | ⟨rfl, rfl⟩ | ⟨rfl, rfl⟩ | ⟨rfl, rfl⟩ <;>
    · refine ⟨fun k hk => ⟨?_, ?_, ?_, ?_⟩, fun k hk => ?_, fun k hk => ?_, ?_, ?_⟩ <;> simp [gI_pA, gI_pI, va_cpy] <;> omega
def swC (h : mH) (a f ax t : Nat) : Int := atV h 4 5 6 a f (2 * ax) t + atV h 4 5 6 a f (2 * ax + 1) t
def PrR (h : mH) (a f : Nat) : Prop := ∀ p, p < 4 → PnR h 4 5 6 a f p
/-- frame r of h' is frame 3 of h with the settings of a portrait -/
def FrP (h h' : mH) (r i : Nat) : Prop := (∀ k, k < 4 → gI h' (r + 1) k = gI h 4 k ∧ gI h' (r + 2) k = gI h 5 k ∧ gI h' (r + 3) k = gI h 6 k ∧ gI h' (r + 5) k = gI h 8 k) ∧ (∀ k, k < 12 → gI h' (r + 4) k = gI h 35 (12 * i + k)) ∧ (∀ k, k < 8 → gI h' (r + 6) k = gI h 9 k) ∧ gI h' r 4 = gI h 3 4 ∧ gI h' r 5 = gI h 3 5
theorem FrP.at {h h' : mH} {r i : Nat} (hp : FrP h h' r i) {p : Nat} (h4 : p < 4) (t : Nat) : atV h' (r + 1) (r + 2) (r + 3) (r + 4) 0 p t = atV h 4 5 6 35 (12 * i) p t := by
  obtain ⟨e1, e2, e3, _⟩ := hp.1 p h4
  unfold atV
  rw [e1, e2, e3, hp.2.1 (0 + p) (by omega), hp.2.1 (0 + (4 + p)) (by omega), hp.2.1 (0 + (8 + p)) (by omega), Nat.zero_add, Nat.zero_add, Nat.zero_add]
theorem FrP.fr {h h' : mH} {r i : Nat} (hp : FrP h h' r i) (hr : PrR h 35 (12 * i)) : FR h' r := by
  intro p h4
  obtain ⟨e1, e2, e3, _⟩ := hp.1 p h4
  have := hr p h4
  unfold PnR at this ⊢
  rw [e1, e2, e3, hp.2.1 (0 + p) (by omega), hp.2.1 (0 + (4 + p)) (by omega), hp.2.1 (0 + (8 + p)) (by omega), Nat.zero_add, Nat.zero_add, Nat.zero_add]
  exact this
theorem FrP.rd {h h' : mH} {r i : Nat} (hp : FrP h h' r i) : ∀ n, n ≤ 4 → rdV h' (r + 2) (r + 4) 0 n = rdV h 5 35 (12 * i) n
  | 0, _ => rfl
  | n + 1, hn => by
    obtain ⟨_, e2, _⟩ := hp.1 n (by omega)
    unfold rdV perV
    rw [FrP.rd hp n (by omega), e2, hp.2.1 (0 + n) (by omega), hp.2.1 (0 + (8 + n)) (by omega), Nat.zero_add, Nat.zero_add]
theorem mX10_takeInto {r i : Nat} (hi : Iv h) (kr : kd r = (2, 11)) (hi8 : i < 8) (k : ∀ h', Sm (fun o => o == r + 4) h h' → (∀ k, k < 12 → gI h' (r + 4) k = gI h 35 (12 * i + k)) → Q (.inl none) h') : WM G jX10_takeInto [.ref 0, .int (iI i), .ref r] h Q := by
  have e12 : (12 : Int32) * iI (i : Int) = iI ((12 * i : Nat) : Int) := by rw [show (12 : Int32) = iI 12 from by decide, iI_mul]; congr 1
  have ex : (iI ((12 * i : Nat) : Int)).toNatClampNeg = 12 * i := by rw [iI_ix ⟨by omega, by omega⟩]; rfl
  refine eX10_takeInto hi kr ?_
  rw [e12, ex]
  refine ⟨by rw [iI_ge0 ⟨by omega, by omega⟩]; omega, by omega, k _ (Sm.rf.pA (by simp) _) (fun j hj => ?_)⟩
  rw [gI_pA, if_pos rfl]
  unfold va_cpy
  rw [if_pos (by omega)]
  congr 1
theorem mX10_copyWith {r i : Nat} (hr : r = 13 ∨ r = 23) (hi : Iv h) (hi8 : i < 8) (k : ∀ h', Sm (mr r) h h' → FrP h h' r i → Q (.inl none) h') : WM G jX10_copyWith [.ref 0, .int (iI i), .ref r] h Q := by
  have kr : kd r = (2, 11) := by rcases hr with rfl | rfl <;> rfl
  refine eX10_copyWith hi kr (mX2_copy (by omega) hi (fun h1 hS1 hF => ?_))
  have hi1 := hS1.iv hi
  refine bX10_copyWith_8 hi1 kr (mX10_takeInto hi1 kr hi8 (fun h2 hS2 hT => bX10_copyWith_14 (hS2.iv hi1) (k h2 ?_ ?_)))
  · exact hS1.tr (hS2.wk (fun o ho => by unfold mr at ho; simp at ho ⊢; omega))
  · have o : ∀ d, d ≠ 4 → (fun o => o == r + 4) (r + d) = false := fun d hd => by simp; omega
    have o35 : gI h1 35 = gI h 35 := funext fun j => hS1.gI (by unfold mr; simp; omega) j
    refine ⟨fun j hj => ?_, fun j hj => ?_, fun j hj => ?_, ?_, ?_⟩
    · obtain ⟨a1, a2, a3, a4⟩ := hF.1 j hj
      rw [hS2.gI (o 1 (by omega)), hS2.gI (o 2 (by omega)), hS2.gI (o 3 (by omega)), hS2.gI (o 5 (by omega))]
      exact ⟨a1, a2, a3, a4⟩
    · rw [hT j hj, o35]
    · rw [hS2.gI (o 6 (by omega))]
      exact hF.2.2.1 j hj
    · rw [show gI h2 r 4 = gI h1 r 4 from hS2.gI (o 0 (by omega)) 4]
      exact hF.2.2.2.1
    · rw [show gI h2 r 5 = gI h1 r 5 from hS2.gI (o 0 (by omega)) 5]
      exact hF.2.2.2.2
def ceC (h : mH) (f t : Nat) : Nat := (ceI (swC h 35 f 0 t) (swC h 35 f 1 t)).toNat
def mrs (o : Nat) : Bool := decide (13 ≤ o ∧ o ≤ 22) || (o == 81)
theorem mX10_markPortrait {i lo n : Nat} {b : Int32} (hi : Iv h) (hi8 : i < 8) (hb : lo + n ≤ 10000) (hr : PrR h 35 (12 * i)) (hfd : FdOk h 13)
    (k : ∀ h', Sm mrs h h' → FdOk h' 13 → (∀ x, x < 729 → gI h' 81 x = if hit (ceC h (12 * i)) lo (n + 1) x then gI h 81 x ||| b else gI h 81 x) → Q (.inl none) h') : WM G jX10_markPortrait [.ref 0, .int (iI i), .int (iI lo), .int (iI ((lo + n : Nat) : Int)), .int b] h Q := by
  refine eX10_markPortrait hi (mX10_copyWith (.inl rfl) hi hi8 (fun h1 hS1 hP => ?_))
  have hi1 := hS1.iv hi
  have S2 : Sm (fun o => o == 13) h1 (pI h1 13 5 0) := Sm.pI Sm.rf rfl _ _
  have hfd1 : FdOk h1 13 := FdOk_cg hS1 (by intro d d1 d2; unfold mr; simp; omega) hfd
  have hfd2 : FdOk (pI h1 13 5 0) 13 := FdOk_cg S2 (by intro d d1 d2; simp; omega) hfd1
  have hf1 := hP.fr hr
  have hf2 : FR (pI h1 13 5 0) 13 := fun p hp => PnR_cg S2 rfl rfl rfl rfl (hf1 p hp)
  have hz : gI (pI h1 13 5 0) 13 5 = 0 := by rw [gI_pI]; rfl
  have hc2 : CR (pI h1 13 5 0) 13 := by
    refine ⟨by rw [hz]; exact ⟨by decide, by decide⟩, fun i hi => ?_⟩
    rw [hz] at hi
    exact absurd hi (by rw [show (0 : Int32).toInt.toNat = 0 from by decide]; omega)
  refine bX10_markPortrait_9 hi1 (mX10_markSeen (h := pI h1 13 5 0) hi1 rfl hb hf2 hc2 hfd2 (fun h3 hS3 hfd3 h3x => ?_))
  refine bX10_markPortrait_29 (hS3.iv (show Iv (pI h1 13 5 0) from hi1)) (k h3 ?_ hfd3 ?_)
  · refine (hS1.wk (fun o ho => ?_)).tr ((S2.wk (fun o ho => ?_)).tr (hS3.wk (fun o ho => ?_)))
    · unfold mrs at ho; unfold mr; simp at ho ⊢; omega
    · unfold mrs at ho; simp at ho ⊢; omega
    · unfold mrs at ho; unfold crs cr; simp at ho ⊢; omega
  · have hce : ceF (pI h1 13 5 0) 13 = ceC h (12 * i) := by
      funext t
      have hp : ∀ ax, ax < 2 → pnF (pI h1 13 5 0) 13 ax t = swC h 35 (12 * i) ax t := by
        intro ax hax
        unfold pnF swF skF swC
        rw [hz, show (0 : Int32).toInt.toNat = 0 from by decide]
        rw [atV_cg S2 (a1 := 13 + 1) (a2 := 13 + 2) (a3 := 13 + 3) (a4 := 13 + 4) rfl rfl rfl rfl, atV_cg S2 (a1 := 13 + 1) (a2 := 13 + 2) (a3 := 13 + 3) (a4 := 13 + 4) rfl rfl rfl rfl, hP.at (by omega), hP.at (by omega)]
        show _ + (0 : Int) = _
        omega
      unfold ceF ceC
      rw [hp 0 (by omega), hp 1 (by omega)]
    intro x hx
    rw [h3x x hx, hce]
    have e81 : gI (pI h1 13 5 0) 81 x = gI h 81 x := by
      rw [S2.gI (o := 81) rfl, hS1.gI (o := 81) (by decide)]
    rw [e81]
/-- laid() -/
def bits (b1 b2 : Bool) : Int32 := (if b1 then 1 else 0) ||| (if b2 then 2 else 0)
def laV (c1 c2 : Nat → Nat) (a b w : Int32) : Nat := cnt (fun x => bits (hit c1 a.toInt.toNat ((b.toInt - a.toInt).toNat + 1) x) (hit c2 a.toInt.toNat ((b.toInt - a.toInt).toNat + 1) x) == (if w = 0 then 3 else w)) 729
def pk (h : mH) (v : Int32) : Prop := 0 ≤ v.toInt ∧ v.toInt < (gI h 33 1).toInt
theorem ceC_cg {h h' : mH} (hS : Sm mrs h h') (f : Nat) : ceC h' f = ceC h f := by
  funext t
  unfold ceC swC
  rw [atV_cg hS (a1 := 4) (a2 := 5) (a3 := 6) (a4 := 35) rfl rfl rfl rfl, atV_cg hS (a1 := 4) (a2 := 5) (a3 := 6) (a4 := 35) rfl rfl rfl rfl, atV_cg hS (a1 := 4) (a2 := 5) (a3 := 6) (a4 := 35) rfl rfl rfl rfl, atV_cg hS (a1 := 4) (a2 := 5) (a3 := 6) (a4 := 35) rfl rfl rfl rfl]
theorem mX10_laid {p q a b w : Int32} (hi : Iv h) (h8 : (gI h 33 1).toInt ≤ 8) (hr : ∀ i : Nat, (i : Int) < (gI h 33 1).toInt → PrR h 35 (12 * i)) (hfd : FdOk h 13)
    (kN : ¬ (pk h p ∧ pk h q ∧ (0 ≤ w.toInt ∧ w.toInt ≤ 2)) → Th eN h Q) (kI : (pk h p ∧ pk h q ∧ (0 ≤ w.toInt ∧ w.toInt ≤ 2)) → ¬ spn a b → Th eI h Q)
    (k : ∀ h', (pk h p ∧ pk h q ∧ (0 ≤ w.toInt ∧ w.toInt ≤ 2)) → spn a b → Sm mrs h h' → FdOk h' 13 → Q (.inl (some (.int (iI (laV (ceC h (12 * p.toInt.toNat)) (ceC h (12 * q.toInt.toNat)) a b w : Nat))))) h') : WM G jX10_laid [.ref 0, .int p, .int q, .int a, .int b, .int w] h Q := by
  refine eX10_laid hi (mX10_needPortrait hi (fun p1 p2 => ?_) (fun c => kN (fun z => c z.1)))
  refine bX10_laid_5 hi (mX10_needPortrait hi (fun q1 q2 => ?_) (fun c => kN (fun z => c z.2.1)))
  refine bX10_laid_10 hi ?_
  rw [show (2 : Int32) = iI 2 from by decide]
  refine mX10_needWhat ⟨by decide, by decide⟩ hi (fun w1 w2 => ?_) (fun c => kN (fun z => c z.2.2))
  have hok : pk h p ∧ pk h q ∧ (0 ≤ w.toInt ∧ w.toInt ≤ 2) := ⟨⟨p1, p2⟩, ⟨q1, q2⟩, w1, w2⟩
  refine bX10_laid_16 hi (mX10_needSpan hi (fun hs => ?_) (kI hok))
  refine bX10_laid_22 hi (mJ7_fill hi (a := 81) (n := 729) rfl (by omega) (fun h1 hS1 h1z => ?_))
  have hi1 := hS1.iv hi
  have hfd1 := FdOk_cg hS1 (r := 13) (by intro d d1 d2; simp; omega) hfd
  have hS1' : Sm mrs h h1 := hS1.wk (fun o ho => by unfold mrs at ho; simp at ho ⊢; omega)
  have k' := fun h' => k h' hok hs
  unfold laV at k'
  obtain ⟨lo, n, ea, eb, l1, l2, e3, e4⟩ := spn_n hs
  have ep := i32_nat p1
  have eq := i32_nat q1
  have hr1 := hr p.toInt.toNat (by omega)
  have hr2 := hr q.toInt.toNat (by omega)
  have bp8 : p.toInt.toNat < 8 := by omega
  have bq8 : q.toInt.toNat < 8 := by omega
  rw [← e3, ← e4] at k'
  generalize hpi : p.toInt.toNat = pi at *
  generalize hqi : q.toInt.toNat = qi at *
  refine bX10_laid_30 hi1 ?_
  rw [ep, ea, eb]
  have prcg : ∀ {g g' : mH} (hS : Sm mrs g g') (f : Nat), PrR g 35 f → PrR g' 35 f := fun hS f hp p h4 => PnR_cg hS rfl rfl rfl rfl (hp p h4)
  refine mX10_markPortrait hi1 bp8 (by omega) (prcg hS1' _ hr1) hfd1 (fun h2 hS2 hfd2 h2x => ?_)
  have hi2 := hS2.iv hi1
  have hS12 := hS1'.tr hS2
  refine bX10_laid_39 hi2 ?_
  rw [eq]
  refine mX10_markPortrait hi2 bq8 (by omega) (prcg hS12 _ hr2) hfd2 (fun h3 hS3 hfd3 h3x => ?_)
  have hi3 := hS3.iv hi2
  rw [ceC_cg hS1'] at h2x
  rw [ceC_cg hS12] at h3x
  have hcnt : cnt (fun x => gI h3 81 x == (if w = 0 then 3 else w)) 729 = cnt (fun x => bits (hit (ceC h (12 * pi)) lo (n + 1) x) (hit (ceC h (12 * qi)) lo (n + 1) x) == (if w = 0 then 3 else w)) 729 := by
    refine cnt_cg _ (fun x hx => ?_)
    rw [h3x x hx, h2x x hx, h1z x hx]
    congr 1
    cases hit (ceC h (12 * pi)) lo (n + 1) x <;> cases hit (ceC h (12 * qi)) lo (n + 1) x <;> decide
  have fin := k' h3 (hS12.tr hS3) hfd3
  rw [← hcnt] at fin
  refine bX10_laid_48 hi3 ⟨fun c => ?_, fun c => ?_⟩
  · rw [if_neg c] at fin
    exact mX10_cellsSeen hi3 (bX10_laid_63 hi3 fin)
  · rw [if_pos c] at fin
    exact mX10_cellsSeen hi3 (bX10_laid_63 hi3 fin)
end LAID
