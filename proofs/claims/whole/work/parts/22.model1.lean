section MODEL1
variable {G : GX} {h : mH} {Q : mO → mH → Prop}
def bI (p : Prop) [Decidable p] : Int32 := if p then 1 else 0
theorem bI1 {p : Prop} [Decidable p] (hp : p) : bI p = 1 := if_pos hp
theorem bI0 {p : Prop} [Decidable p] (hp : ¬ p) : bI p = 0 := if_neg hp
theorem within_b {v : Int32} {a b : Int} (ha : r31 a) (hb : r31 b) : fX11_within v (iI a) (iI b) = bI (a ≤ v.toInt ∧ v.toInt ≤ b) := by
  unfold fX11_within bI
  simp only [i32_lt ha, i32_gt hb]
  repeat' split
  all_goals first | rfl | omega
theorem within_0 {v : Int32} {a b : Int} (ha : r31 a) (hb : r31 b) : fX11_within v (iI a) (iI b) = 0 ↔ ¬ (a ≤ v.toInt ∧ v.toInt ≤ b) := by
  rw [within_b ha hb]
  unfold bI
  split
  · exact ⟨fun z => absurd z (by decide), fun z => absurd (by assumption) z⟩
  · exact ⟨fun _ => by assumption, fun _ => rfl⟩
theorem mX11_right {p : Prop} [Decidable p] {w : Int32} (hi : Iv h) (h0 : gI h 83 0 = 0) (hw : w ≠ 0) (k1 : p → Q (.inl (some (.int 1))) h) (k0 : ¬ p → Q (.inl (some (.int 0))) (pI h 83 0 w)) : WM G jX11_right [.ref 83, .int (bI p), .int w] h Q := by
  refine eX11_right hi ⟨fun c => absurd h0 c, fun _ => ⟨fun c => ?_, fun c => ?_⟩⟩
  · by_cases hp : p
    · exact bX11_right_16 hi ⟨fun c => absurd h0 c, fun _ => k1 hp⟩
    · exact absurd (bI0 hp) c
  · by_cases hp : p
    · rw [bI1 hp] at c
      exact absurd c (by decide)
    · have e : gI (pI h 83 0 w) 83 0 = w := by rw [gI_pI]; rfl
      exact bX11_right_16 (h := pI h 83 0 w) hi ⟨fun _ => k0 hp, fun c => absurd (e ▸ c) hw⟩
theorem mX11_right1 {w : Int32} (hi : Iv h) (h0 : gI h 83 0 = 0) (hw : w ≠ 0) (k1 : Q (.inl (some (.int 1))) h) : WM G jX11_right [.ref 83, .int 1, .int w] h Q :=
  mX11_right (p := True) hi h0 hw (fun _ => k1) (fun z => absurd trivial z)
theorem mX11_right0 {w : Int32} (hi : Iv h) (h0 : gI h 83 0 = 0) (hw : w ≠ 0) (k0 : Q (.inl (some (.int 0))) (pI h 83 0 w)) : WM G jX11_right [.ref 83, .int 0, .int w] h Q :=
  mX11_right (p := False) hi h0 hw (fun z => z.elim) (fun _ => k0)
theorem mX11_isPendulum {v : Int32} (hi : Iv h) (h0 : gI h 83 0 = 0) (k1 : (0 ≤ v.toInt ∧ v.toInt ≤ 3) → Q (.inl (some (.int 1))) h) (k0 : ¬ (0 ≤ v.toInt ∧ v.toInt ≤ 3) → Q (.inl (some (.int 0))) (pI h 83 0 1)) : WM G jX11_isPendulum [.ref 83, .int v] h Q := by
  refine eX11_isPendulum hi ?_
  rw [show fX11_within v 0 3 = bI (0 ≤ v.toInt ∧ v.toInt ≤ 3) from within_b (a := 0) (b := 3) ⟨by decide, by decide⟩ ⟨by decide, by decide⟩]
  exact mX11_right hi h0 (by decide) (fun p => bX11_isPendulum_11 hi ⟨.inr rfl, k1 p⟩) (fun p => bX11_isPendulum_11 (h := pI h 83 0 1) hi ⟨.inl rfl, k0 p⟩)
theorem mX11_isTick {v w : Int32} (hi : Iv h) (h0 : gI h 83 0 = 0) (hw : w ≠ 0) (k1 : (0 ≤ v.toInt ∧ v.toInt ≤ 9999) → Q (.inl (some (.int 1))) h) (k0 : ¬ (0 ≤ v.toInt ∧ v.toInt ≤ 9999) → Q (.inl (some (.int 0))) (pI h 83 0 w)) : WM G jX11_isTick [.ref 83, .int v, .int w] h Q := by
  refine eX11_isTick hi ?_
  rw [show fX11_within v 0 9999 = bI (0 ≤ v.toInt ∧ v.toInt ≤ 9999) from within_b (a := 0) (b := 9999) ⟨by decide, by decide⟩ ⟨by decide, by decide⟩]
  exact mX11_right hi h0 hw (fun p => bX11_isTick_13 hi ⟨.inr rfl, k1 p⟩) (fun p => bX11_isTick_13 (h := pI h 83 0 w) hi ⟨.inl rfl, k0 p⟩)
theorem mX11_isSpan {a b w : Int32} (hi : Iv h) (h0 : gI h 83 0 = 0) (hw : w ≠ 0) (k1 : spn a b → Q (.inl (some (.int 1))) h) (k0 : ¬ spn a b → Q (.inl (some (.int 0))) (pI h 83 0 w)) : WM G jX11_isSpan [.ref 83, .int a, .int b, .int w] h Q := by
  have ra := r31_self a
  have rb := r31_self b
  have n0 : ∀ z : ¬ spn a b, WM G jX11_right [.ref 83, .int 0, .int w] h (Aft G jX11_isSpan 32 [none, none, none, none] [] Q) := fun z => mX11_right0 hi h0 hw (bX11_isSpan_35 (h := pI h 83 0 w) hi ⟨.inl rfl, k0 z⟩)
  have hlt : b < a ↔ b.toInt < a.toInt := by rw [← iI_lt rb ra, iI_self, iI_self]
  have e0 : a < 0 ↔ a.toInt < 0 := by rw [i32_0, i32_lt ⟨by decide, by decide⟩]
  have e1 : (10000 : Int32) ≤ b ↔ 10000 ≤ b.toInt := by rw [show (10000 : Int32) = iI 10000 from by decide, i32_ge ⟨by decide, by decide⟩]
  refine eX11_isSpan hi ⟨fun c => n0 (fun z => ?_), fun c0 => ⟨fun c => n0 (fun z => ?_), fun c1 => ⟨fun c => n0 (fun z => ?_), fun c2 => ?_⟩⟩⟩
  · rw [e0] at c; have := z.1; omega
  · rw [e1] at c; have := z.2.1; omega
  · rw [hlt] at c; have := z.2.2.1; omega
  · rw [e0] at c0
    rw [e1] at c1
    rw [hlt] at c2
    have e2 : (999 : Int32) < b - a ↔ 999 < b.toInt - a.toInt := by
      conv => lhs; rw [← iI_self b, ← iI_self a, iI_sub, show (999 : Int32) = iI 999 from by decide, iI_lt ⟨by decide, by decide⟩ ⟨by omega, by omega⟩]
    refine ⟨fun c => n0 (fun z => ?_), fun c => mX11_right1 hi h0 hw (bX11_isSpan_35 hi ⟨.inr rfl, k1 ⟨?_, ?_, ?_, ?_⟩⟩)⟩
    · rw [e2] at c; have := z.2.2.2; omega
    · omega
    · omega
    · omega
    · rw [e2] at c; omega
theorem mX11_isPortrait {v : Int32} (hi : Iv h) (h0 : gI h 83 0 = 0) (k1 : (0 ≤ v.toInt ∧ v.toInt < (gI h 83 30).toInt) → Q (.inl (some (.int 1))) h) (k0 : ¬ (0 ≤ v.toInt ∧ v.toInt < (gI h 83 30).toInt) → Q (.inl (some (.int 0))) (pI h 83 0 1)) : WM G jX11_isPortrait [.ref 83, .int v] h Q := by
  have n0 : ∀ z : ¬ (0 ≤ v.toInt ∧ v.toInt < (gI h 83 30).toInt), WM G jX11_right [.ref 83, .int 0, .int 1] h (Aft G jX11_isPortrait 19 [none, none] [] Q) := fun z => mX11_right0 hi h0 (by decide) (bX11_isPortrait_22 (h := pI h 83 0 1) hi ⟨.inl rfl, k0 z⟩)
  have hle : gI h 83 30 ≤ v ↔ (gI h 83 30).toInt ≤ v.toInt := by rw [← iI_le (r31_self _) (r31_self _), iI_self, iI_self]
  have e0 : v < 0 ↔ v.toInt < 0 := by rw [i32_0, i32_lt ⟨by decide, by decide⟩]
  refine eX11_isPortrait hi ⟨fun c => n0 (fun z => ?_), fun c0 => ⟨fun c => n0 (fun z => ?_), fun c1 => mX11_right1 hi h0 (by decide) (bX11_isPortrait_22 hi ⟨.inr rfl, k1 ⟨?_, ?_⟩⟩)⟩⟩
  · rw [e0] at c; omega
  · rw [hle] at c; omega
  · rw [e0] at c0; omega
  · rw [hle] at c1; omega
theorem mX11_refuses {s : Nat} (hi : Iv h) (hs : s < 5) (k : Q (.inl (some (.int (-1)))) (pI h 90 s (gI h 90 s + 1))) : WM G jX11_refuses [.ref 83, .int (iI s)] h Q := by
  have hx : (iI (s : Int)).toNatClampNeg = s := by rw [iI_ix ⟨by omega, by omega⟩]; rfl
  have hv : vp_in (iI (s : Int)) 5 := iI_in (by omega) (by omega) (by omega)
  refine eX11_refuses hi ⟨hv, hv, ?_⟩
  rw [hx]; exact k
theorem mX11_period {a n f p : Nat} (hi : Iv h) (k1 : kd a = (100, n)) (hf : f + 12 ≤ n) (hn9 : n ≤ 1000) (hp : p < 4) (k : Q (.inl (some (.int (gI h 85 p + gI h a (f + p))))) h) : WM G jX11_period [.ref 83, .ref a, .int (iI f), .int (iI p)] h Q := by
  have hx : (iI (p : Int)).toNatClampNeg = p := by rw [iI_ix ⟨by omega, by omega⟩]; rfl
  have e : iI (f : Int) + iI (p : Int) = iI ((f + p : Nat) : Int) := by rw [iI_add]; congr 1
  have hy : (iI ((f + p : Nat) : Int)).toNatClampNeg = f + p := by rw [iI_ix ⟨by omega, by omega⟩]; rfl
  refine eX11_period hi k1 ⟨iI_in (by omega) (by omega) (by omega), ?_, ?_⟩
  · rw [e]; exact iI_in (by omega) (by omega) (by omega)
  · rw [e, hx, hy]; exact k
/-- copies: the first n1 of a row -/
def cpN (f g : Nat → Int32) (n : Nat) : Nat → Int32 := fun k => if k < n then f k else g k
theorem copies_loop {a b n : Nat} (k1 : kd a = (100, n)) (k2 : kd b = (100, n)) (hab : a ≠ b) (hn9 : n ≤ 1000) : ∀ (d i : Nat) (h : mH), i + d = n → Iv h → (∀ h', Sm (fun o => o == b) h h' → (∀ k, k < i → gI h' b k = gI h b k) → (∀ k, i ≤ k → k < n → gI h' b k = gI h a k) → Q (.inl none) h') →
    Vw G jX11_copies 2 [none, some (.ref a), some (.ref b), some (.int (iI i))] [] h Q
  | 0, i, h, e, hi, k => by
    have : i = n := by omega
    subst this
    have hc : Int32.ofNat i ≤ iI (i : Int) := by rw [show Int32.ofNat i = iI i from (Int32.ofInt_eq_ofNat).symm]; exact Int32.le_refl _
    exact bX11_copies_2 hi k1 k2 ⟨fun _ => k h Sm.rf (fun _ _ => rfl) (fun k a b => by omega), fun c => absurd hc c⟩
  | d + 1, i, h, e, hi, k => by
    have hx : (iI (i : Int)).toNatClampNeg = i := by rw [iI_ix ⟨by omega, by omega⟩]; rfl
    have hv : vp_in (iI (i : Int)) n := iI_in (by omega) (by omega) (by omega)
    have e1 : iI (i : Int) + 1 = iI ((i + 1 : Nat) : Int) := by rw [show (1 : Int32) = iI 1 from by decide, iI_add]; congr 1
    refine bX11_copies_2 hi k1 k2 ⟨fun c => ?_, fun _ => ⟨hv, hv, ?_⟩⟩
    · rw [show Int32.ofNat n = iI n from (Int32.ofInt_eq_ofNat).symm, iI_le ⟨by omega, by omega⟩ ⟨by omega, by omega⟩] at c
      omega
    · rw [hx, e1]
      refine copies_loop k1 k2 hab hn9 d (i + 1) _ (by omega) (show Iv h from hi) (fun h' hS h1 h2 => k h' ?_ ?_ ?_)
      · exact (Sm.pI Sm.rf (by simp) _ _).tr hS
      · intro j hj
        rw [h1 j (by omega), gI_pI, if_neg (by omega)]
      · intro j hj hj2
        by_cases hji : j = i
        · subst hji
          rw [h1 j (by omega), gI_pI, if_pos ⟨rfl, rfl⟩]
        · rw [h2 j (by omega) hj2, gI_pI, if_neg (by omega)]
theorem mX11_copies {a b n : Nat} (hi : Iv h) (k1 : kd a = (100, n)) (k2 : kd b = (100, n)) (hab : a ≠ b) (hn9 : n ≤ 1000) (k : ∀ h', Sm (fun o => o == b) h h' → (∀ k, k < n → gI h' b k = gI h a k) → Q (.inl none) h') : WM G jX11_copies [.ref 83, .ref a, .ref b] h Q := by
  refine eX11_copies hi k1 k2 ?_
  rw [i32_0]
  exact copies_loop k1 k2 hab hn9 n 0 h (by omega) hi (fun h' hS _ h2 => k h' hS (fun j hj => h2 j (by omega) hj))
def MR (h : mH) (a f : Nat) : Prop := ∀ p, p < 4 → PnR h 84 85 86 a f p
def swM (h : mH) (a f ax t : Nat) : Int := atV h 84 85 86 a f (2 * ax) t + atV h 84 85 86 a f (2 * ax + 1) t
def skM (h : mH) (ax t : Nat) : Int := shI (fun i => (gI h 88 (3 * i)).toInt) (fun i => (gI h 88 (3 * i + 1 + ax)).toInt) t (gI h 83 2).toInt.toNat
def pnM (h : mH) (ax t : Nat) : Int := swM h 87 0 ax t + skM h ax t
def CM (h : mH) : Prop := rg (gI h 83 2) 0 4 ∧ ∀ i, i < (gI h 83 2).toInt.toNat → rg (gI h 88 (3 * i)) 0 999 ∧ ∀ a, a < 2 → rg (gI h 88 (3 * i + 1 + a)) (-20) 20
theorem swM_b {h : mH} {a f ax t : Nat} (hm : MR h a f) (hax : ax < 2) : -180 ≤ swM h a f ax t ∧ swM h a f ax t ≤ 180 := by
  have h1 := atV_b (hm (2 * ax) (by omega)) t
  have h2 := atV_b (hm (2 * ax + 1) (by omega)) t
  unfold swM
  omega
theorem skM_b {h : mH} {ax t : Nat} (hc : CM h) (hax : ax < 2) : -80 ≤ skM h ax t ∧ skM h ax t ≤ 80 := by
  obtain ⟨⟨c1, c2⟩, hw⟩ := hc
  have := shI_b (tk := fun i => (gI h 88 (3 * i)).toInt) (wy := fun i => (gI h 88 (3 * i + 1 + ax)).toInt) (t := t) (gI h 83 2).toInt.toNat (fun i hi => (hw i hi).2 ax hax)
  unfold skM
  omega
theorem pnM_b {h : mH} {ax t : Nat} (hm : MR h 87 0) (hc : CM h) (hax : ax < 2) : -260 ≤ pnM h ax t ∧ pnM h ax t ≤ 260 := by
  have h1 := swM_b (t := t) hm hax
  have h2 := skM_b (t := t) hc hax
  unfold pnM
  omega
theorem mX11_penOf {a f n t ax : Nat} (hi : Iv h) (k1 : kd a = (100, n)) (hf : f + 12 ≤ n) (hn9 : n ≤ 1000) (hax : ax < 2) (ht : t ≤ 10000000) (hm : MR h a f) (k : Q (.inl (some (.int (iI (swM h a f ax t))))) h) : WM G jX11_penOf [.ref 83, .ref a, .int (iI f), .int (iI t), .int (iI ax)] h Q := by
  have e2 : (2 : Int32) * iI (ax : Int) = iI ((2 * ax : Nat) : Int) := by rw [iI_lit 2, iI_mul]; congr 1
  have e3 : (2 : Int32) * iI (ax : Int) + 1 = iI ((2 * ax + 1 : Nat) : Int) := by rw [e2, iI_lit 1, iI_add]; congr 1
  refine eX11_penOf hi k1 ?_
  rw [e2]
  refine mX11_at hi k1 hf hn9 (by omega) ht (hm (2 * ax) (by omega)).ok ?_
  refine bX11_penOf_11 hi k1 ?_
  rw [e3]
  refine mX11_at hi k1 hf hn9 (by omega) ht (hm (2 * ax + 1) (by omega)).ok ?_
  refine bX11_penOf_24 hi ?_
  rw [iI_add]
  exact k
theorem mX11_penNow {t ax : Nat} (hi : Iv h) (hax : ax < 2) (ht : t ≤ 10000000) (hm : MR h 87 0) (hc : CM h) (k : Q (.inl (some (.int (iI (pnM h ax t))))) h) : WM G jX11_penNow [.ref 83, .int (iI t), .int (iI ax)] h Q := by
  obtain ⟨⟨c1, c2⟩, hw⟩ := hc
  obtain ⟨n, hn⟩ : ∃ n : Nat, (gI h 83 2).toInt = n := ⟨(gI h 83 2).toInt.toNat, by omega⟩
  have hcn : gI h 83 2 = iI n := by rw [← hn, iI_self]
  have hnn : (gI h 83 2).toInt.toNat = n := by omega
  rw [hnn] at hw
  unfold pnM skM at k
  rw [hnn] at k
  refine eX11_penNow hi ?_
  refine mX11_penOf (f := 0) hi (a := 87) (n := 12) rfl (by omega) (by omega) hax ht hm ?_
  refine bX11_penNow_11 hi ?_
  have loop : ∀ m i : Nat, i + m = n → Vw G jX11_penNow 15 [some (.ref 83), some (.int (iI t)), some (.int (iI ax)), some (.int (iI (swM h 87 0 ax t + shI (fun i => (gI h 88 (3 * i)).toInt) (fun i => (gI h 88 (3 * i + 1 + ax)).toInt) t i))), some (.int (iI i))] [] h Q := by
    intro m
    induction m with
    | zero =>
      intro i him
      have : i = n := by omega
      subst this
      refine bX11_penNow_15 hi ⟨fun _ => k, fun c => absurd ?_ c⟩
      rw [hcn]
      exact Int32.le_refl _
    | succ m ih =>
      intro i him
      have hil : i < n := by omega
      have h3 : (3 : Int32) * iI (i : Int) = iI ((3 * i : Nat) : Int) := by rw [iI_lit 3, iI_mul]; congr 1
      have h3x : (iI ((3 * i : Nat) : Int)).toNatClampNeg = 3 * i := by rw [iI_ix ⟨by omega, by omega⟩]; rfl
      have h4 : iI ((3 * i : Nat) : Int) + 1 + iI (ax : Int) = iI ((3 * i + 1 + ax : Nat) : Int) := by rw [iI_lit 1, iI_add, iI_add]; congr 1
      have h4x : (iI ((3 * i + 1 + ax : Nat) : Int)).toNatClampNeg = 3 * i + 1 + ax := by rw [iI_ix ⟨by omega, by omega⟩]; rfl
      have e1 : iI (i : Int) + 1 = iI ((i + 1 : Nat) : Int) := by rw [iI_lit 1, iI_add]; congr 1
      have nxt : ∀ v : Int, v = swM h 87 0 ax t + shI (fun i => (gI h 88 (3 * i)).toInt) (fun i => (gI h 88 (3 * i + 1 + ax)).toInt) t (i + 1) → Vw G jX11_penNow 15 [some (.ref 83), some (.int (iI t)), some (.int (iI ax)), some (.int (iI v)), some (.int (iI (i : Int) + 1))] [] h Q := by
        intro v hv
        subst hv
        rw [e1]
        exact ih (i + 1) (by omega)
      refine bX11_penNow_15 hi ⟨fun c => ?_, fun _ => ⟨by rw [h3]; exact iI_in (by omega) (by omega) (by omega), fun c => ?_, fun c => ⟨by rw [h3, h4]; exact iI_in (by omega) (by omega) (by omega), ?_⟩⟩⟩
      · rw [hcn, iI_le ⟨by omega, by omega⟩ ⟨by omega, by omega⟩] at c
        omega
      · rw [i32_0, iI_add]
        refine nxt _ ?_
        rw [h3, h3x, ← iI_self (gI h 88 (3 * i)), iI_lt ⟨by omega, by omega⟩ (r31_self _)] at c
        show _ = _ + (shI _ _ _ i + _)
        rw [if_neg (by show ¬ (gI h 88 (3 * i)).toInt ≤ t; omega)]
        omega
      · rw [h3, h4, h4x, ← iI_self (gI h 88 (3 * i + 1 + ax)), iI_add]
        refine nxt _ ?_
        rw [h3, h3x, ← iI_self (gI h 88 (3 * i)), iI_lt ⟨by omega, by omega⟩ (r31_self _)] at c
        show _ = _ + (shI _ _ _ i + _)
        rw [if_pos (by show (gI h 88 (3 * i)).toInt ≤ t; omega)]
        exact Int.add_assoc _ _ _
  have := loop n 0 (by omega)
  rw [show swM h 87 0 ax t + shI (fun i => (gI h 88 (3 * i)).toInt) (fun i => (gI h 88 (3 * i + 1 + ax)).toInt) t 0 = swM h 87 0 ax t from by show _ + (0 : Int) = _; omega] at this
  exact this
end MODEL1
