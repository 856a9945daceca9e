section INCELL
variable {G : GX} {h : mH} {Q : mO → mH → Prop}
theorem spn_n {a b : Int32} (hs : spn a b) : ∃ lo n : Nat, a = iI lo ∧ b = iI ((lo + n : Nat) : Int) ∧ lo + n ≤ 9999 ∧ n ≤ 999 ∧ lo = a.toInt.toNat ∧ n = (b.toInt - a.toInt).toNat := by
  obtain ⟨s1, s2, s3, s4⟩ := hs
  refine ⟨a.toInt.toNat, (b.toInt - a.toInt).toNat, i32_nat s1, ?_, by omega, by omega, rfl, rfl⟩
  conv => lhs; rw [← iI_self b]
  congr 1; omega
def drF (c : Nat → Nat) (a b : Int32) : Nat := cnt (hit c a.toInt.toNat ((b.toInt - a.toInt).toNat + 1)) 729
theorem mX10_drawn {a b : Int32} (hi : Iv h) (hf : FR h 3) (hc : CR h 3) (hfd : FdOk h 3) (kI : ¬ spn a b → Th eI h Q) (k : ∀ h', spn a b → Sm (crs 3) h h' → FdOk h' 3 → Q (.inl (some (.int (iI (drF (ceF h 3) a b : Nat))))) h') : WM G jX10_drawn [.ref 0, .int a, .int b] h Q := by
  refine eX10_drawn hi (mX10_needSpan hi (fun hs => ?_) kI)
  refine bX10_drawn_5 hi (mJ7_fill hi (a := 81) (n := 729) rfl (by omega) (fun h1 hS1 h1z => ?_))
  have hi1 := hS1.iv hi
  have co1 : ∀ d, d ≤ 6 → (fun o => o == 81) (3 + d) = false := by intro d hd; simp; omega
  have hf1 := FR_cg hS1 co1 hf
  have hc1 := CR_cg hS1 co1 hc
  have hfd1 := FdOk_cg hS1 (r := 3) (by intro d d1 d2; simp; omega) hfd
  have hce : ceF h1 3 = ceF h 3 := funext fun t => ceF_cg hS1 co1 t
  refine bX10_drawn_13 hi1 ?_
  have k' := fun h' => k h' hs
  unfold drF at k'
  obtain ⟨lo, n, ea, eb, l1, l2, e3, e4⟩ := spn_n hs
  rw [← e3, ← e4] at k'
  clear kI k
  subst ea eb
  refine mX10_markSeen hi1 rfl (by omega) hf1 hc1 hfd1 (fun h2 hS2 hfd2 h2x => ?_)
  rw [hce] at h2x
  have hi2 := hS2.iv hi1
  refine bX10_drawn_24 hi2 (mX10_cellsSeen hi2 (bX10_drawn_29 hi2 ?_))
  have : cnt (fun x => gI h2 81 x == 1) 729 = cnt (hit (ceF h 3) lo (n + 1)) 729 := by
    refine cnt_cg _ (fun x hx => ?_)
    rw [h2x x hx, h1z x hx]
    cases hit (ceF h 3) lo (n + 1) x <;> decide
  rw [this]
  refine k' h2 ((hS1.wk (fun o ho => ?_)).tr hS2) hfd2
  unfold crs at ho
  simp at ho
  simpa using ho.2
/-- the first tick in a cell -/
def fnd (c : Nat → Nat) (x : Nat) : Nat → Nat → Int
  | 0, _ => -1
  | m + 1, lo => if c lo = x then lo else fnd c x m (lo + 1)
def fdF (c : Nat → Nat) (x a b : Int32) : Int := fnd c x.toInt.toNat ((b.toInt - a.toInt).toNat + 1) a.toInt.toNat
theorem mX10_inCell {x a b : Int32} (hi : Iv h) (hf : FR h 3) (hc : CR h 3) (hfd : FdOk h 3) (kN : ¬ (0 ≤ x.toInt ∧ x.toInt ≤ 728) → Th eN h Q) (kI : (0 ≤ x.toInt ∧ x.toInt ≤ 728) → ¬ spn a b → Th eI h Q)
    (k : ∀ h', (0 ≤ x.toInt ∧ x.toInt ≤ 728) → spn a b → Sm (cr 3) h h' → FdOk h' 3 → Q (.inl (some (.int (iI (fdF (ceF h 3) x a b))))) h') : WM G jX10_inCell [.ref 0, .int x, .int a, .int b] h Q := by
  refine eX10_inCell hi (mX10_needCell hi (fun x1 x2 => ?_) kN)
  refine bX10_inCell_4 hi (mX10_needSpan hi (fun hs => ?_) (kI ⟨x1, x2⟩))
  refine bX10_inCell_9 hi ?_
  have k' := fun h' => k h' ⟨x1, x2⟩ hs
  unfold fdF at k'
  obtain ⟨lo, n, ea, eb, l1, l2, e3, e4⟩ := spn_n hs
  obtain ⟨c, hcx⟩ : ∃ c : Nat, c = x.toInt.toNat := ⟨_, rfl⟩
  have ex : x = iI c := by rw [hcx]; exact i32_nat x1
  have hc9 : c ≤ 728 := by omega
  rw [← e3, ← e4, ← hcx] at k'
  clear kI k kN
  subst ea eb ex
  have hco := cr_out (r := 3) (r' := 3) rfl rfl
  have loop : ∀ m i : Nat, i + m = lo + n + 1 → ∀ h1, Sm (cr 3) h h1 → FdOk h1 3 → (∀ h', Sm (cr 3) h h' → FdOk h' 3 → Q (.inl (some (.int (iI (fnd (ceF h 3) c m i))))) h') → Vw G jX10_inCell 12 [some (.ref 0), some (.int (iI c)), none, some (.int (iI ((lo + n : Nat) : Int))), some (.int (iI i))] [] h1 Q := by
    intro m
    induction m with
    | zero =>
      intro i him h1 hS1 hfd1 kk
      have hi1 := hS1.iv hi
      refine bX10_inCell_12 hi1 ⟨fun _ => kk h1 hS1 hfd1, fun z => absurd ?_ z⟩
      rw [iI_lt ⟨by omega, by omega⟩ ⟨by omega, by omega⟩]
      omega
    | succ m ih =>
      intro i him h1 hS1 hfd1 kk
      have hi1 := hS1.iv hi
      have hf1 := FR_cg hS1 hco hf
      have hc1 := CR_cg hS1 hco hc
      have e1 : iI (i : Int) + 1 = iI ((i + 1 : Nat) : Int) := by rw [iI_lit 1, iI_add]; congr 1
      refine bX10_inCell_12 hi1 ⟨fun z => ?_, fun _ => mX2_cellAt hi1 rfl (by omega) hf1 hc1 hfd1 (fun h2 hS2 hfd2 => ?_)⟩
      · rw [iI_lt ⟨by omega, by omega⟩ ⟨by omega, by omega⟩] at z
        omega
      obtain ⟨hb1, hb2⟩ := ceF_b (t := i) hf1 hc1
      rw [hb2]
      have hce : ceF h1 3 i = ceF h 3 i := ceF_cg hS1 hco _
      rw [hce] at hb1 ⊢
      have heq : iI (ceF h 3 i : Nat) = iI (c : Nat) ↔ ceF h 3 i = c := by rw [iI_eq ⟨by omega, by omega⟩ ⟨by omega, by omega⟩]; omega
      unfold fnd at kk
      refine bX10_inCell_27 (hS2.iv hi1) ⟨fun z => ?_, fun z => ?_⟩
      · rw [heq] at z
        rw [if_neg z] at kk
        rw [e1]
        exact ih (i + 1) (by omega) h2 (hS1.tr hS2) hfd2 kk
      · rw [heq] at z
        rw [if_pos z] at kk
        exact kk h2 (hS1.tr hS2) hfd2
  exact loop (n + 1) lo (by omega) h Sm.rf hfd k'
/-- the model's -/
theorem cellOfM_iI {al ac : Int} (h1 : -260 ≤ al) (h2 : al ≤ 260) (h3 : -260 ≤ ac) (h4 : ac ≤ 260) : fX11_cellOf (iI al) (iI ac) = iI (ceI al ac) := cellOf_iI h1 h2 h3 h4
def ceM (h : mH) (t : Nat) : Nat := (ceI (pnM h 0 t) (pnM h 1 t)).toNat
theorem ceM_b {t : Nat} (hm : MR h 87 0) (hc : CM h) : ceM h t ≤ 728 ∧ fX11_cellOf (iI (pnM h 0 t)) (iI (pnM h 1 t)) = iI (ceM h t : Nat) := by
  have b0 := pnM_b (t := t) hm hc (show 0 < 2 by omega)
  have b1 := pnM_b (t := t) hm hc (show 1 < 2 by omega)
  have := ceI_b b0.1 b0.2 b1.1 b1.2
  rw [cellOfM_iI b0.1 b0.2 b1.1 b1.2]
  unfold ceM
  exact ⟨by omega, by congr 1; omega⟩
theorem pnM_rows {h h' : mH} {S : Nat → Bool} (hS : Sm S h h') (e1 : S 84 = false) (e2 : S 85 = false) (e3 : S 86 = false) (e4 : S 87 = false) (e5 : S 88 = false) (e0 : gI h' 83 2 = gI h 83 2) (ax t : Nat) : pnM h' ax t = pnM h ax t := by
  unfold pnM
  rw [swM_cg hS e1 e2 e3 e4, skM_rows e0 (fun k => hS.gI e5 k)]
/-- what the model's scribbling leaves alone: all rows but its own scratch rows, and carts -/
def ms (o : Nat) : Bool := o == 83 || (o == 96)
def sc2 (h h' : mH) : Prop := Sm ms h h' ∧ ∀ k, k ≠ 0 → gI h' 83 k = gI h 83 k
theorem sc2.rf {h : mH} : sc2 h h := ⟨Sm.rf, fun _ _ => rfl⟩
theorem sc2.tr {a b c : mH} (h1 : sc2 a b) (h2 : sc2 b c) : sc2 a c := ⟨h1.1.tr h2.1, fun k hk => (h2.2 k hk).trans (h1.2 k hk)⟩
theorem sc2.th {h h' : mH} (hs : sc2 h h') (v : Int32) : sc2 h (pI h' 83 0 v) := ⟨hs.1.pI rfl _ _, fun k hk => by rw [gI_pI, if_neg (by omega)]; exact hs.2 k hk⟩
theorem sc2.mk {h h' : mH} (hs : sc2 h h') (k : Nat) (v : Int32) : sc2 h (pI h' 96 k v) := ⟨hs.1.pI rfl _ _, fun j hj => by rw [gI_pI, if_neg (by omega)]; exact hs.2 j hj⟩
theorem sc2.ce {h h' : mH} (hs : sc2 h h') (t : Nat) : ceM h' t = ceM h t := by
  unfold ceM
  rw [pnM_rows hs.1 rfl rfl rfl rfl rfl (hs.2 2 (by omega)), pnM_rows hs.1 rfl rfl rfl rfl rfl (hs.2 2 (by omega))]
theorem sc2.mr {h h' : mH} (hs : sc2 h h') {a f : Nat} (ha : ms a = false) (hm : MR h a f) : MR h' a f := MR_cg hs.1 rfl rfl rfl ha hm
theorem sc2.cm {h h' : mH} (hs : sc2 h h') (hm : CM h) : CM h' := CM_rows (hs.2 2 (by omega)) (fun k => hs.1.gI rfl k) hm
theorem mX11_inCell {x a b : Int32} (hi : Iv h) (hm : MR h 87 0) (hc : CM h) (kN : ¬ (0 ≤ x.toInt ∧ x.toInt ≤ 728) → Q (.inl (some (.int 0))) (pI (pI h 83 0 0) 83 0 1)) (kI : (0 ≤ x.toInt ∧ x.toInt ≤ 728) → ¬ spn a b → Q (.inl (some (.int 0))) (pI (pI h 83 0 0) 83 0 2))
    (k : (0 ≤ x.toInt ∧ x.toInt ≤ 728) → spn a b → Q (.inl (some (.int (iI (fdF (ceM h) x a b))))) (pI h 83 0 0)) : WM G jX11_inCell [.ref 83, .int x, .int a, .int b] h Q := by
  have hs0 := (sc2.rf (h := h)).th 0
  have hi0 : Iv (pI h 83 0 0) := hi
  have h00 : gI (pI h 83 0 0) 83 0 = 0 := by rw [gI_pI]; rfl
  refine eX11_inCell hi ?_
  rw [show fX11_within x 0 728 = bI (0 ≤ x.toInt ∧ x.toInt ≤ 728) from within_b (a := 0) (b := 728) ⟨by decide, by decide⟩ ⟨by decide, by decide⟩]
  refine mX11_right hi0 h00 (by decide) (fun hx => ?_) (fun hx => bX11_inCell_18 (h := pI (pI h 83 0 0) 83 0 1) hi ⟨fun _ => kN hx, fun c => absurd rfl c⟩)
  refine bX11_inCell_18 hi0 ⟨fun c => absurd c (by decide), fun _ => mX11_isSpan hi0 h00 (by decide) (fun hs => ?_) (fun hs => bX11_inCell_28 (h := pI (pI h 83 0 0) 83 0 2) hi ⟨fun c => absurd rfl c, fun _ => kI hx hs⟩)⟩
  refine bX11_inCell_28 hi0 ⟨fun _ => ?_, fun c => absurd c (by decide)⟩
  have k' := k hx hs
  unfold fdF at k'
  obtain ⟨lo, n, ea, eb, l1, l2, e3, e4⟩ := spn_n hs
  obtain ⟨c, hcx⟩ : ∃ c : Nat, c = x.toInt.toNat := ⟨_, rfl⟩
  have ex : x = iI c := by rw [hcx]; exact i32_nat hx.1
  have hc9 : c ≤ 728 := by have := hx.2; omega
  rw [← e3, ← e4, ← hcx] at k'
  clear kI k kN
  subst ea eb ex
  have hm0 := hs0.mr (a := 87) (f := 0) rfl hm
  have hc0 := hs0.cm hc
  have loop : ∀ m i : Nat, i + m = lo + n + 1 → Q (.inl (some (.int (iI (fnd (ceM h) c m i))))) (pI h 83 0 0) → Vw G jX11_inCell 36 [some (.ref 83), some (.int (iI c)), none, some (.int (iI ((lo + n : Nat) : Int))), some (.int (iI i))] [] (pI h 83 0 0) Q := by
    intro m
    induction m with
    | zero =>
      intro i him kk
      refine bX11_inCell_36 hi0 ⟨fun _ => kk, fun z => absurd ?_ z⟩
      rw [iI_lt ⟨by omega, by omega⟩ ⟨by omega, by omega⟩]
      omega
    | succ m ih =>
      intro i him kk
      have e1 : iI (i : Int) + 1 = iI ((i + 1 : Nat) : Int) := by rw [iI_lit 1, iI_add]; congr 1
      refine bX11_inCell_36 hi0 ⟨fun z => ?_, fun _ => mX11_penNow (ax := 0) hi0 (by omega) (by omega) hm0 hc0 ?_⟩
      · rw [iI_lt ⟨by omega, by omega⟩ ⟨by omega, by omega⟩] at z
        omega
      refine bX11_inCell_49 hi0 (mX11_penNow (ax := 1) hi0 (by omega) (by omega) hm0 hc0 ?_)
      obtain ⟨hb1, hb2⟩ := ceM_b (t := i) hm0 hc0
      rw [hs0.ce] at hb1 hb2
      have heq : iI (ceM h i : Nat) = iI (c : Nat) ↔ ceM h i = c := by rw [iI_eq ⟨by omega, by omega⟩ ⟨by omega, by omega⟩]; omega
      unfold fnd at kk
      refine bX11_inCell_56 hi0 ?_
      rw [hb2]
      refine ⟨fun z => ?_, fun z => ?_⟩
      · rw [heq] at z
        rw [if_neg z] at kk
        rw [e1]
        exact ih (i + 1) (by omega) kk
      · rw [heq] at z
        rw [if_pos z] at kk
        exact kk
  exact loop (n + 1) lo (by omega) k'
theorem mX11_clears (hi : Iv h) (k : ∀ h', sc2 h h' → gI h' 83 0 = gI h 83 0 → (∀ x, x < 729 → gI h' 96 x = 0) → Q (.inl none) h') : WM G jX11_clears [.ref 83] h Q := by
  refine eX11_clears hi ?_
  have loop : ∀ m i : Nat, i + m = 729 → ∀ h1, sc2 h h1 → gI h1 83 0 = gI h 83 0 → (∀ x, x < i → gI h1 96 x = 0) → Vw G jX11_clears 2 [some (.ref 83), some (.int (iI i))] [] h1 Q := by
    intro m
    induction m with
    | zero =>
      intro i him h1 hs1 h10 hx
      have : i = 729 := by omega
      subst this
      exact bX11_clears_2 (hs1.1.iv hi) ⟨fun _ => k h1 hs1 h10 hx, fun c => absurd (by decide) c⟩
    | succ m ih =>
      intro i him h1 hs1 h10 hx
      have hix : (iI (i : Int)).toNatClampNeg = i := by rw [iI_ix ⟨by omega, by omega⟩]; rfl
      have e1 : iI (i : Int) + 1 = iI ((i + 1 : Nat) : Int) := by rw [iI_lit 1, iI_add]; congr 1
      refine bX11_clears_2 (hs1.1.iv hi) ⟨fun c => ?_, fun _ => ⟨iI_in (by omega) (by omega) (by omega), ?_⟩⟩
      · rw [show (729 : Int32) = iI 729 from by decide, iI_le ⟨by decide, by decide⟩ ⟨by omega, by omega⟩] at c
        omega
      · rw [hix, e1]
        refine ih (i + 1) (by omega) _ (hs1.mk _ _) (by rw [gI_pI, if_neg (by omega)]; exact h10) (fun x hx1 => ?_)
        rw [gI_pI]
        by_cases hxi : x = i
        · rw [if_pos ⟨rfl, hxi⟩]
        · rw [if_neg (by omega)]
          exact hx x (by omega)
  exact loop 729 0 (by omega) h sc2.rf rfl (fun x hx => by omega)
theorem mX11_drawn {a b : Int32} (hi : Iv h) (hm : MR h 87 0) (hc : CM h) (kI : ¬ spn a b → Q (.inl (some (.int 0))) (pI (pI h 83 0 0) 83 0 1))
    (k : ∀ h', spn a b → sc2 h h' → gI h' 83 0 = 0 → Q (.inl (some (.int (iI (drF (ceM h) a b : Nat))))) h') : WM G jX11_drawn [.ref 83, .int a, .int b] h Q := by
  have hs0 := (sc2.rf (h := h)).th 0
  have hi0 : Iv (pI h 83 0 0) := hi
  have h00 : gI (pI h 83 0 0) 83 0 = 0 := by rw [gI_pI]; rfl
  refine eX11_drawn hi ?_
  refine mX11_isSpan hi0 h00 (by decide) (fun hs => ?_) (fun hs => bX11_drawn_12 (h := pI (pI h 83 0 0) 83 0 1) hi ⟨fun c => absurd rfl c, fun _ => kI hs⟩)
  refine bX11_drawn_12 hi0 ⟨fun _ => mX11_clears hi0 (fun h1 hs1 h10 h1z => ?_), fun c => absurd c (by decide)⟩
  have hs01 := hs0.tr hs1
  refine bX11_drawn_21 (hs01.1.iv hi) ?_
  have k' := fun h' => k h' hs
  unfold drF at k'
  obtain ⟨lo, n, ea, eb, l1, l2, e3, e4⟩ := spn_n hs
  rw [← e3, ← e4] at k'
  clear kI k
  subst ea eb
  have loop : ∀ m i : Nat, i + m = n + 1 → ∀ h2, sc2 h h2 → gI h2 83 0 = 0 → (∀ x, x < 729 → gI h2 96 x = if hit (ceM h) lo i x then 1 else 0) → Vw G jX11_drawn 26 [some (.ref 83), none, some (.int (iI ((lo + n : Nat) : Int))), some (.int (iI (cnt (hit (ceM h) lo i) 729 : Nat))), some (.int (iI ((lo + i : Nat) : Int))), none] [] h2 Q := by
    intro m
    induction m with
    | zero =>
      intro i him h2 hs2 h20 hx
      have : i = n + 1 := by omega
      subst this
      refine bX11_drawn_26 (hs2.1.iv hi) ⟨fun _ => k' h2 hs2 h20, fun z => absurd ?_ z⟩
      rw [iI_lt ⟨by omega, by omega⟩ ⟨by omega, by omega⟩]
      omega
    | succ m ih =>
      intro i him h2 hs2 h20 hx
      have hi2 := hs2.1.iv hi
      have hm2 := hs2.mr (a := 87) (f := 0) rfl hm
      have hc2 := hs2.cm hc
      have e1 : iI ((lo + i : Nat) : Int) + 1 = iI ((lo + (i + 1) : Nat) : Int) := by rw [iI_lit 1, iI_add]; congr 1
      refine bX11_drawn_26 hi2 ⟨fun z => ?_, fun _ => mX11_penNow (ax := 0) hi2 (by omega) (by omega) hm2 hc2 ?_⟩
      · rw [iI_lt ⟨by omega, by omega⟩ ⟨by omega, by omega⟩] at z
        omega
      refine bX11_drawn_39 hi2 (mX11_penNow (ax := 1) hi2 (by omega) (by omega) hm2 hc2 ?_)
      obtain ⟨hb1, hb2⟩ := ceM_b (t := lo + i) hm2 hc2
      rw [hs2.ce] at hb1 hb2
      refine bX11_drawn_46 hi2 ?_
      rw [hb2]
      obtain ⟨c, hcc⟩ : ∃ c, c = ceM h (lo + i) := ⟨_, rfl⟩
      rw [← hcc] at hb1 ⊢
      have hcx : (iI (c : Int)).toNatClampNeg = c := by rw [iI_ix ⟨by omega, by omega⟩]; rfl
      have hv : vp_in (iI (c : Int)) 729 := iI_in (by omega) (by omega) (by omega)
      have hset := cnt_set (f := hit (ceM h) lo i) (c := c) 729
      have hfun : (fun x => hit (ceM h) lo i x || (c == x)) = hit (ceM h) lo (i + 1) := by
        funext x
        rw [hcc]
        rfl
      rw [hfun] at hset
      have hnx : ∀ x, x < 729 → gI (pI h2 96 c 1) 96 x = if hit (ceM h) lo (i + 1) x then 1 else 0 := by
        intro x hx7
        rw [gI_pI, ← hfun]
        by_cases hxc : x = c
        · rw [if_pos ⟨rfl, hxc⟩, hxc]
          simp
        · rw [if_neg (by omega), hx x hx7]
          have : (c == x) = false := by simpa using fun e => hxc e.symm
          simp only [this, Bool.or_false]
      have hnext := ih (i + 1) (by omega) (pI h2 96 c 1) (hs2.mk _ _) (by rw [gI_pI, if_neg (by omega)]; exact h20) hnx
      rw [hset] at hnext
      rw [hcx]
      refine ⟨hv, fun z => ⟨hv, ?_⟩, fun z => ⟨hv, ?_⟩⟩
      · rw [hx c (by omega)] at z
        have hh : hit (ceM h) lo i c = true := by
          cases hb : hit (ceM h) lo i c
          · rw [hb] at z; exact absurd rfl z
          · rfl
        rw [hh] at hnext
        rw [i32_0, iI_add, e1]
        simpa using hnext
      · rw [hx c (by omega)] at z
        have hh : hit (ceM h) lo i c = false := by
          cases hb : hit (ceM h) lo i c
          · rfl
          · rw [hb] at z; exact absurd z (by decide)
        rw [hh, if_pos ⟨by omega, rfl⟩] at hnext
        rw [e1, show iI (cnt (hit (ceM h) lo i) 729 : Nat) + 1 = iI ((cnt (hit (ceM h) lo i) 729 + 1 : Nat) : Int) from by rw [iI_lit 1, iI_add]; congr 1]
        exact hnext
  have h0 : cnt (hit (ceM h) lo 0) 729 = 0 := by
    have : ∀ n, cnt (hit (ceM h) lo 0) n = 0 := by
      intro n
      induction n with
      | zero => rfl
      | succ n ih => unfold cnt; rw [ih]; rfl
    exact this 729
  have := loop (n + 1) 0 (by omega) h1 hs01 (h10.trans h00) (fun x hx => h1z x hx)
  rw [h0] at this
  exact this
end INCELL
