section PEN
/-- what carts up to a tick have moved -/
def shI (tk wy : Nat → Int) (t : Int) : Nat → Int
  | 0 => 0
  | n + 1 => shI tk wy t n + (if tk n ≤ t then wy n else 0)
theorem shI_b {tk wy : Nat → Int} {t : Int} : ∀ n : Nat, (∀ i, i < n → -20 ≤ wy i ∧ wy i ≤ 20) → -(20 * (n : Int)) ≤ shI tk wy t n ∧ shI tk wy t n ≤ 20 * (n : Int)
  | 0, _ => ⟨by show _ ≤ (0 : Int); omega, by show (0 : Int) ≤ _; omega⟩
  | n + 1, hw => by
    have ih := shI_b (tk := tk) (t := t) n (fun i hi => hw i (by omega))
    have h1 := hw n (by omega)
    show _ ≤ shI tk wy t n + _ ∧ shI tk wy t n + _ ≤ _
    split <;> omega
theorem shI_congr {tk wy tk' wy' : Nat → Int} {t : Int} : ∀ n : Nat, (∀ i, i < n → tk i = tk' i ∧ wy i = wy' i) → shI tk wy t n = shI tk' wy' t n
  | 0, _ => rfl
  | n + 1, hw => by
    show shI tk wy t n + _ = shI tk' wy' t n + _
    rw [shI_congr n (fun i hi => hw i (by omega)), (hw n (by omega)).1, (hw n (by omega)).2]
def rg (x : Int32) (lo hi : Int) : Prop := lo ≤ x.toInt ∧ x.toInt ≤ hi
def PnR (h : mH) (a1 a2 a3 a4 f p : Nat) : Prop := rg (gI h a1 p) 0 2 ∧ rg (gI h a2 p) 2 40 ∧ rg (gI h a3 p) 0 99 ∧ rg (gI h a4 (f + p)) 0 9 ∧ rg (gI h a4 (f + (4 + p))) 0 99 ∧ rg (gI h a4 (f + (8 + p))) 0 90
def atV (h : mH) (a1 a2 a3 a4 f p t : Nat) : Int := atI (gI h a1 p).toInt (gI h a2 p).toInt (gI h a3 p).toInt (gI h a4 (f + p)).toInt (gI h a4 (f + (4 + p))).toInt (gI h a4 (f + (8 + p))).toInt t
theorem PnR.ok {h : mH} {a1 a2 a3 a4 f p : Nat} (hr : PnR h a1 a2 a3 a4 f p) : PnOk h a1 a2 a3 a4 f p (gI h a1 p).toInt (gI h a2 p).toInt (gI h a3 p).toInt (gI h a4 (f + p)).toInt (gI h a4 (f + (4 + p))).toInt (gI h a4 (f + (8 + p))).toInt := by
  obtain ⟨h1, h2, h3, h4, h5, h6⟩ := hr
  exact ⟨(iI_self _).symm, (iI_self _).symm, (iI_self _).symm, (iI_self _).symm, (iI_self _).symm, (iI_self _).symm, h1.1, h1.2, h2.1, h2.2, h3.1, h3.2, h4.1, h4.2, h5.1, h5.2, h6.1, h6.2⟩
theorem tdiv_b {a b s : Int} (hb : 0 < b) (h1 : -(b * s) ≤ a) (h2 : a ≤ b * s) (hs : 0 ≤ s) : -s ≤ a.tdiv b ∧ a.tdiv b ≤ s := by
  rcases Int.le_total 0 a with h | h
  · rw [Int.tdiv_eq_ediv_of_nonneg h]
    have g1 := Int.ediv_nonneg h (Int.le_of_lt hb)
    have g2 : a / b ≤ s := Int.ediv_le_of_le_mul hb (by rw [Int.mul_comm]; exact h2)
    omega
  · have e : a.tdiv b = -((-a).tdiv b) := by rw [Int.neg_tdiv, Int.neg_neg]
    have h' : 0 ≤ -a := by omega
    rw [e, Int.tdiv_eq_ediv_of_nonneg h']
    have g1 := Int.ediv_nonneg h' (Int.le_of_lt hb)
    have g2 : -a / b ≤ s := Int.ediv_le_of_le_mul hb (by rw [Int.mul_comm]; omega)
    omega
theorem slI_T {u T : Int} (h1 : 0 ≤ u) (h2 : u < T) : -T ≤ slI u T ∧ slI u T ≤ T := by
  unfold slI
  repeat' split
  all_goals omega
theorem sq_nn (x : Int) : 0 ≤ x * x := by
  rcases Int.le_total 0 x with h | h
  · exact Int.mul_nonneg h h
  · have := Int.mul_nonneg (show 0 ≤ -x by omega) (show 0 ≤ -x by omega)
    rw [Int.neg_mul_neg] at this
    exact this
theorem sq_e (T x : Int) : 4 * x * (T - x) = T * T - (T - 2 * x) * (T - 2 * x) := by
  simp only [Int.mul_sub, Int.sub_mul, Int.mul_add, Int.add_mul]
  have e1 : T * (2 * x) = 2 * (T * x) := by rw [Int.mul_left_comm]
  have e2 : 2 * x * T = 2 * (T * x) := by rw [Int.mul_assoc, Int.mul_comm x T]
  have e3 : 2 * x * (2 * x) = 4 * (x * x) := by rw [Int.mul_assoc, Int.mul_left_comm x 2 x, ← Int.mul_assoc]; rfl
  have e4 : 4 * x * T = 4 * (T * x) := by rw [Int.mul_assoc, Int.mul_comm x T]
  have e5 : 4 * x * x = 4 * (x * x) := by rw [Int.mul_assoc]
  rw [e1, e2, e3, e4, e5]
  omega
theorem arI_T {u T : Int} (h1 : 0 ≤ u) (h2 : u < T) : -(T * T) ≤ arI u T ∧ arI u T ≤ T * T := by
  have key : ∀ x : Int, 0 ≤ x → x ≤ T → 0 ≤ 4 * x * (T - x) ∧ 4 * x * (T - x) ≤ T * T := by
    intro x g1 g2
    refine ⟨Int.mul_nonneg (by omega) (by omega), ?_⟩
    rw [sq_e]
    have := sq_nn (T - 2 * x)
    omega
  have hTT := sq_nn T
  unfold arI
  split
  · have := key (2 * u) (by omega) (by omega)
    omega
  · have := key (2 * u - T) (by omega) (by omega)
    rw [Int.neg_mul, Int.neg_mul]
    omega
theorem posI_b {kk T u s : Int} (a1 : 0 ≤ kk) (a2 : kk ≤ 2) (h1 : 0 ≤ u) (h2 : u < T) (h4 : 0 ≤ s) : -s ≤ posI kk T u s ∧ posI kk T u s ≤ s := by
  by_cases c0 : kk = 0
  · subst c0
    rw [posI_sl]
    have b := slI_T h1 h2
    have := mulb (B := s) b.1 b.2 h4 (Int.le_refl s) (by omega)
    exact tdiv_b (by omega) this.1 this.2 h4
  · by_cases c1 : kk = 1
    · subst c1
      rw [posI_ar]
      have b := arI_T h1 h2
      have := mulb (B := s) b.1 b.2 h4 (Int.le_refl s) (sq_nn T)
      exact tdiv_b (Int.mul_pos (by omega) (by omega)) this.1 this.2 h4
    · unfold posI
      rw [if_neg c0, if_neg c1]
      split <;> omega
theorem atV_b {h : mH} {a1 a2 a3 a4 f p : Nat} (hr : PnR h a1 a2 a3 a4 f p) (t : Nat) : -90 ≤ atV h a1 a2 a3 a4 f p t ∧ atV h a1 a2 a3 a4 f p t ≤ 90 := by
  obtain ⟨-, -, -, -, -, -, b1, b2, b3, b4, b5, b6, b7, b8, b9, b10, b11, b12⟩ := hr.ok
  unfold atV atI
  have hb := fdN_le b5 (by omega) b11 (t / ((gI h a2 p).toInt + (gI h a4 (f + p)).toInt).toNat)
  have := posI_b b1 b2 (Int.emod_nonneg ((t : Int) + (gI h a4 (f + (4 + p))).toInt) (show (gI h a2 p).toInt + (gI h a4 (f + p)).toInt ≠ 0 by omega)) (Int.emod_lt_of_pos _ (by omega)) hb.1
  omega
variable {G : GX} {h : mH} {Q : mO → mH → Prop}
/-- a frame's numbers -/
def FR (h : mH) (r : Nat) : Prop := ∀ p, p < 4 → PnR h (r + 1) (r + 2) (r + 3) (r + 4) 0 p
def CR (h : mH) (r : Nat) : Prop := rg (gI h r 5) 0 4 ∧ ∀ i, i < (gI h r 5).toInt.toNat → rg (gI h (r + 5) i) 0 999 ∧ ∀ a, a < 2 → rg (gI h (r + 6) (2 * i + a)) (-20) 20
def swF (h : mH) (r ax t : Nat) : Int := atV h (r + 1) (r + 2) (r + 3) (r + 4) 0 (2 * ax) t + atV h (r + 1) (r + 2) (r + 3) (r + 4) 0 (2 * ax + 1) t
def skF (h : mH) (r ax t : Nat) : Int := shI (fun i => (gI h (r + 5) i).toInt) (fun i => (gI h (r + 6) (2 * i + ax)).toInt) t (gI h r 5).toInt.toNat
def pnF (h : mH) (r ax t : Nat) : Int := swF h r ax t + skF h r ax t
theorem mX2_shaken {r t ax : Nat} (hi : Iv h) (k0 : kd r = (2, 11)) (hax : ax < 2) (ht : t ≤ 10000000) (hc : CR h r) (k : Q (.inl (some (.int (iI (skF h r ax t))))) h) : WM G jX2_shaken [.ref r, .int (iI t), .int (iI ax)] h Q := by
  obtain ⟨⟨c1, c2⟩, hw⟩ := hc
  obtain ⟨n, hn⟩ : ∃ n : Nat, (gI h r 5).toInt = n := ⟨(gI h r 5).toInt.toNat, by omega⟩
  have hcn : gI h r 5 = iI n := by rw [← hn, iI_self]
  have hnn : (gI h r 5).toInt.toNat = n := by omega
  rw [hnn] at hw
  unfold skF at k
  rw [hnn] at k
  refine eX2_shaken hi k0 ?_
  have loop : ∀ m i : Nat, i + m = n → Vw G jX2_shaken 5 [some (.ref r), some (.int (iI t)), some (.int (iI ax)), some (.int (iI (shI (fun i => (gI h (r + 5) i).toInt) (fun i => (gI h (r + 6) (2 * i + ax)).toInt) t i))), some (.int (iI i))] [] h Q := by
    intro m
    induction m with
    | zero =>
      intro i him
      have : i = n := by omega
      subst this
      refine bX2_shaken_5 hi k0 ⟨fun _ => k, fun c => absurd ?_ c⟩
      rw [hcn]
      exact Int32.le_refl _
    | succ m ih =>
      intro i him
      have hil : i < n := by omega
      obtain ⟨hw1, hw2⟩ := hw i hil
      have hwa := hw2 ax hax
      have hix : (iI (i : Int)).toNatClampNeg = i := by rw [iI_ix ⟨by omega, by omega⟩]; rfl
      have h2 : ((2 : Int32) * iI (i : Int)) + iI (ax : Int) = iI ((2 * i + ax : Nat) : Int) := by
        rw [iI_lit 2, iI_mul, iI_add]; congr 1
      have h2x : (iI ((2 * i + ax : Nat) : Int)).toNatClampNeg = 2 * i + ax := by rw [iI_ix ⟨by omega, by omega⟩]; rfl
      have e1 : iI (i : Int) + 1 = iI ((i + 1 : Nat) : Int) := by rw [iI_lit 1, iI_add]; congr 1
      have nxt : ∀ v : Int, v = shI (fun i => (gI h (r + 5) i).toInt) (fun i => (gI h (r + 6) (2 * i + ax)).toInt) t (i + 1) → Vw G jX2_shaken 45 [some (.ref r), some (.int (iI t)), some (.int (iI ax)), some (.int (iI v)), some (.int (iI i))] [] h Q := by
        intro v hv
        subst hv
        refine bX2_shaken_45 hi k0 ?_
        rw [e1]
        exact ih (i + 1) (by omega)
      refine bX2_shaken_5 hi k0 ⟨fun c => ?_, fun _ => ⟨fun c => ?_, fun _ => ⟨iI_in (by omega) (by omega) (by omega), fun c => ?_, fun c => ⟨by rw [h2]; exact iI_in (by omega) (by omega) (by omega), ?_⟩⟩⟩⟩
      · rw [hcn, iI_le ⟨by omega, by omega⟩ ⟨by omega, by omega⟩] at c
        omega
      · rw [iI_lit 4, iI_le ⟨by decide, by decide⟩ ⟨by omega, by omega⟩] at c
        have c : (4 : Int) ≤ i := c
        omega
      · refine nxt _ ?_
        rw [hix, ← iI_self (gI h (r + 5) i), iI_lt ⟨by omega, by omega⟩ (r31_self _)] at c
        show _ = shI _ _ _ i + _
        rw [if_neg (by show ¬ (gI h (r + 5) i).toInt ≤ t; omega)]
        omega
      · rw [h2, h2x, ← iI_self (gI h (r + 6) (2 * i + ax)), iI_add]
        refine nxt _ ?_
        rw [hix, ← iI_self (gI h (r + 5) i), iI_lt ⟨by omega, by omega⟩ (r31_self _)] at c
        show _ = shI _ _ _ i + _
        rw [if_pos (by show (gI h (r + 5) i).toInt ≤ t; omega)]
  have := loop n 0 (by omega)
  exact this
theorem FR_Sm {r r' : Nat} {h h' : mH} (hS : Sm (cr r') h h') (k0 : kd r = (2, 11)) (k1 : kd r' = (2, 11)) (hf : FR h r) : FR h' r := by
  intro p hp
  have := hf p hp
  unfold PnR at this ⊢
  have e : ∀ d, d ≤ 6 → cr r' (r + d) = false := by
    intro d hd
    rcases frc k0 with rfl | rfl | rfl | rfl <;> rcases frc k1 with rfl | rfl | rfl | rfl <;> simp [cr] <;> omega
  rw [hS.gI (e 1 (by omega)), hS.gI (e 2 (by omega)), hS.gI (e 3 (by omega)), hS.gI (e 4 (by omega)), hS.gI (e 4 (by omega)), hS.gI (e 4 (by omega))]
  exact this
theorem cr_out {r r' : Nat} (k0 : kd r = (2, 11)) (k1 : kd r' = (2, 11)) : ∀ d, d ≤ 6 → cr r' (r + d) = false := by
  intro d hd
  rcases frc k0 with rfl | rfl | rfl | rfl <;> rcases frc k1 with rfl | rfl | rfl | rfl <;> simp [cr] <;> omega
theorem atV_Sm {r : Nat} {h h' : mH} (hS : Sm (cr r) h h') (k0 : kd r = (2, 11)) (p t : Nat) : atV h' (r + 1) (r + 2) (r + 3) (r + 4) 0 p t = atV h (r + 1) (r + 2) (r + 3) (r + 4) 0 p t := by
  unfold atV
  have e := cr_out k0 k0
  rw [hS.gI (e 1 (by omega)), hS.gI (e 2 (by omega)), hS.gI (e 3 (by omega)), hS.gI (e 4 (by omega)), hS.gI (e 4 (by omega)), hS.gI (e 4 (by omega))]
theorem skF_Sm {r : Nat} {h h' : mH} (hS : Sm (cr r) h h') (k0 : kd r = (2, 11)) (ax t : Nat) : skF h' r ax t = skF h r ax t := by
  unfold skF
  have e := cr_out k0 k0
  have e5 : ∀ i, gI h' (r + 5) i = gI h (r + 5) i := fun i => hS.gI (e 5 (by omega)) i
  have e6 : ∀ i, gI h' (r + 6) i = gI h (r + 6) i := fun i => hS.gI (e 6 (by omega)) i
  have e0 : gI h' r 5 = gI h r 5 := hS.gI (e 0 (by omega)) 5
  simp only [e5, e6, e0]
theorem CR_Sm {r : Nat} {h h' : mH} (hS : Sm (cr r) h h') (k0 : kd r = (2, 11)) (hc : CR h r) : CR h' r := by
  unfold CR at hc ⊢
  have e := cr_out k0 k0
  have e5 : ∀ i, gI h' (r + 5) i = gI h (r + 5) i := fun i => hS.gI (e 5 (by omega)) i
  have e6 : ∀ i, gI h' (r + 6) i = gI h (r + 6) i := fun i => hS.gI (e 6 (by omega)) i
  have e0 : gI h' r 5 = gI h r 5 := hS.gI (e 0 (by omega)) 5
  simp only [e5, e6, e0]
  exact hc
/-- swungTo(tick, axis) -/
theorem mX2_swungTo {r t ax : Nat} (hi : Iv h) (k0 : kd r = (2, 11)) (hax : ax < 2) (ht : t ≤ 10000000) (hf : FR h r) (hfd : FdOk h r) (k : ∀ h', Sm (cr r) h h' → FdOk h' r → Q (.inl (some (.int (iI (swF h r ax t))))) h') : WM G jX2_swungTo [.ref r, .int (iI t), .int (iI ax)] h Q := by
  have e2 : (2 : Int32) * iI (ax : Int) = iI ((2 * ax : Nat) : Int) := by rw [iI_lit 2, iI_mul]; congr 1
  have e3 : (2 : Int32) * iI (ax : Int) + 1 = iI ((2 * ax + 1 : Nat) : Int) := by rw [e2, iI_lit 1, iI_add]; congr 1
  refine eX2_swungTo hi k0 ?_
  rw [e2]
  refine mX2_where hi k0 (by omega) ht (hf (2 * ax) (by omega)).ok hfd (fun h1 hS1 hfd1 => ?_)
  have hi1 := hS1.iv hi
  refine bX2_swungTo_8 hi1 k0 ?_
  rw [e3]
  refine mX2_where hi1 k0 (by omega) ht (FR_Sm hS1 k0 k0 hf (2 * ax + 1) (by omega)).ok hfd1 (fun h2 hS2 hfd2 => ?_)
  refine bX2_swungTo_18 (hS2.iv hi1) ?_
  rw [iI_add]
  have := k h2 (hS1.tr hS2) hfd2
  unfold swF at this
  rw [← atV_Sm hS1 k0 (2 * ax + 1)] at this
  exact this
/-- penAt(tick, axis) -/
theorem mX2_penAt {r t ax : Nat} (hi : Iv h) (k0 : kd r = (2, 11)) (hax : ax < 2) (ht : t ≤ 10000000) (hf : FR h r) (hc : CR h r) (hfd : FdOk h r) (k : ∀ h', Sm (cr r) h h' → FdOk h' r → Q (.inl (some (.int (iI (pnF h r ax t))))) h') : WM G jX2_penAt [.ref r, .int (iI t), .int (iI ax)] h Q := by
  have e2 : (2 : Int32) * iI (ax : Int) = iI ((2 * ax : Nat) : Int) := by rw [iI_lit 2, iI_mul]; congr 1
  have e3 : (2 : Int32) * iI (ax : Int) + 1 = iI ((2 * ax + 1 : Nat) : Int) := by rw [e2, iI_lit 1, iI_add]; congr 1
  refine eX2_penAt hi k0 ?_
  rw [e2]
  refine mX2_where hi k0 (by omega) ht (hf (2 * ax) (by omega)).ok hfd (fun h1 hS1 hfd1 => ?_)
  have hi1 := hS1.iv hi
  refine bX2_penAt_8 hi1 k0 ?_
  rw [e3]
  refine mX2_where hi1 k0 (by omega) ht (FR_Sm hS1 k0 k0 hf (2 * ax + 1) (by omega)).ok hfd1 (fun h2 hS2 hfd2 => ?_)
  have hi2 := hS2.iv hi1
  have hS12 := hS1.tr hS2
  refine bX2_penAt_18 hi2 k0 (mX2_shaken hi2 k0 hax ht (CR_Sm hS12 k0 hc) ?_)
  refine bX2_penAt_25 hi2 ?_
  rw [iI_add, iI_add]
  have := k h2 hS12 hfd2
  unfold pnF swF at this
  rw [← skF_Sm hS12 k0, ← atV_Sm hS1 k0 (2 * ax + 1)] at this
  exact this
theorem pnF_Sm {r : Nat} {h h' : mH} (hS : Sm (cr r) h h') (k0 : kd r = (2, 11)) (ax t : Nat) : pnF h' r ax t = pnF h r ax t := by
  unfold pnF swF
  rw [skF_Sm hS k0, atV_Sm hS k0, atV_Sm hS k0]
theorem pnF_b {r ax t : Nat} (hf : FR h r) (hc : CR h r) (hax : ax < 2) : -260 ≤ pnF h r ax t ∧ pnF h r ax t ≤ 260 := by
  have b1 := atV_b (hf (2 * ax) (by omega)) t
  have b2 := atV_b (hf (2 * ax + 1) (by omega)) t
  have b3 := shI_b (tk := fun i => (gI h (r + 5) i).toInt) (wy := fun i => (gI h (r + 6) (2 * i + ax)).toInt) (t := t) (gI h r 5).toInt.toNat (fun i hi => (hc.2 i hi).2 ax hax)
  have := hc.1.1
  have := hc.1.2
  unfold pnF swF skF
  omega
def ceI (al ac : Int) : Int := 27 * ((ac + 260) / 20) + (al + 260) / 20
theorem ceI_b {al ac : Int} (h1 : -260 ≤ al) (h2 : al ≤ 260) (h3 : -260 ≤ ac) (h4 : ac ≤ 260) : 0 ≤ ceI al ac ∧ ceI al ac ≤ 728 := by unfold ceI; omega
theorem cellOf_iI {al ac : Int} (h1 : -260 ≤ al) (h2 : al ≤ 260) (h3 : -260 ≤ ac) (h4 : ac ≤ 260) : fX10_cellOf (iI al) (iI ac) = iI (ceI al ac) := by
  unfold fX10_cellOf
  have e : ∀ x : Int, -260 ≤ x → x ≤ 260 → (iI x + 260) / (20 : Int32) = iI ((x + 260) / 20) := by
    intro x g1 g2
    rw [iI_lit 260, iI_add, iI_lit 20]
    rw [iI_div ⟨by show (_ : Int) ≤ x + 260; omega, by show x + 260 ≤ (_ : Int); omega⟩ ⟨by decide, by decide⟩]
    show iI ((x + 260).tdiv 20) = _
    rw [Int.tdiv_eq_ediv_of_nonneg (by omega)]
  rw [e ac h3 h4, e al h1 h2, iI_lit 27, iI_mul, iI_add]
  rfl
/-- cellAt(tick) -/
theorem mX2_cellAt {r t : Nat} (hi : Iv h) (k0 : kd r = (2, 11)) (ht : t ≤ 10000000) (hf : FR h r) (hc : CR h r) (hfd : FdOk h r) (k : ∀ h', Sm (cr r) h h' → FdOk h' r → Q (.inl (some (.int (iI (ceI (pnF h r 0 t) (pnF h r 1 t)))))) h') : WM G jX2_cellAt [.ref r, .int (iI t)] h Q := by
  have b0 := pnF_b (t := t) hf hc (show 0 < 2 by omega)
  have b1 := pnF_b (t := t) hf hc (show 1 < 2 by omega)
  have z0 : (0 : Int32) = iI ((0 : Nat) : Int) := by decide
  have z1 : (1 : Int32) = iI ((1 : Nat) : Int) := by decide
  refine eX2_cellAt hi k0 ?_
  rw [z0]
  refine mX2_penAt hi k0 (by omega) ht hf hc hfd (fun h1 hS1 hfd1 => ?_)
  have hi1 := hS1.iv hi
  refine bX2_cellAt_6 hi1 k0 ?_
  rw [z1]
  refine mX2_penAt hi1 k0 (by omega) ht (FR_Sm hS1 k0 k0 hf) (CR_Sm hS1 k0 hc) hfd1 (fun h2 hS2 hfd2 => ?_)
  refine bX2_cellAt_12 (hS2.iv hi1) ?_
  rw [pnF_Sm hS1 k0, cellOf_iI b0.1 b0.2 b1.1 b1.2]
  exact k h2 (hS1.tr hS2) hfd2
end PEN
