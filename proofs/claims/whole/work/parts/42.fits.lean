section FITS
variable {G : GX} {h : mH} {Q : mO → mH → Prop}
/-- where pendulum p is at tick t by q pennies -/
def aP (h : mH) (a1 a2 a3 a4 p q t : Nat) : Int := atI (gI h a1 p).toInt (gI h a2 p).toInt (gI h a3 p).toInt (q : Int) (gI h a4 (4 + p)).toInt (gI h a4 (8 + p)).toInt t
def oA (P : Nat → Nat → Nat → Int) (sk : Nat → Nat → Int) (tk : Nat → Nat) (pt : Nat → Nat → Int) (ax a b i : Nat) : Nat := (P (2 * ax) a (tk i) + P (2 * ax + 1) b (tk i) + sk ax (tk i) - pt i ax).natAbs
def ofV (o : Nat → Nat → Nat → Nat → Nat) (r i : Nat) : Nat := o 0 (r / 1000) (r / 100 % 10) i + o 1 (r / 10 % 10) (r % 10) i
def ttV (f : Nat → Nat) : Nat → Nat
  | 0 => 0
  | i + 1 => ttV f i + f i
def ftV (f : Nat → Nat) (near : Nat) : Nat → Bool
  | 0 => true
  | i + 1 => ftV f near i && decide (f i ≤ near)
def dgV (m r : Nat) : Bool := decide (r / 1000 ≤ m) && (decide (r / 100 % 10 ≤ m) && (decide (r / 10 % 10 ≤ m) && decide (r % 10 ≤ m)))
def fsV (f : Nat → Bool) : Nat → Int
  | 0 => -1
  | r + 1 => if fsV f r = -1 then (if f r then (r : Int) else -1) else fsV f r
theorem fsV_b (f : Nat → Bool) : ∀ n, -1 ≤ fsV f n ∧ fsV f n < (n : Int)
  | 0 => ⟨by show (-1 : Int) ≤ -1; omega, by show (-1 : Int) < 0; omega⟩
  | n + 1 => by
    have := fsV_b f n
    unfold fsV
    split
    · split <;> omega
    · omega
theorem ttV_b {f : Nat → Nat} {B : Nat} : ∀ n, (∀ i, i < n → f i ≤ B) → ttV f n ≤ n * B
  | 0, _ => Nat.zero_le _
  | n + 1, hb => by
    have h1 := ttV_b n (fun i hi => hb i (by omega))
    have h2 := hb n (by omega)
    unfold ttV
    rw [Nat.add_mul, Nat.one_mul]
    omega
/-- rows that aren't tried change nothing -/
theorem cnt_out {g f : Nat → Bool} {x : Nat} : ∀ e, (∀ r, x ≤ r → r < x + e → g r = false) → cnt (fun r => g r && f r) (x + e) = cnt (fun r => g r && f r) x
  | 0, _ => rfl
  | e + 1, hg => by
    rw [← cnt_out e (fun r h1 h2 => hg r h1 (by omega))]
    show cnt (fun r => g r && f r) (x + e + 1) = _
    conv => lhs; unfold cnt
    rw [hg (x + e) (by omega) (by omega)]
    simp
theorem fsV_out {g f : Nat → Bool} {x : Nat} : ∀ e, (∀ r, x ≤ r → r < x + e → g r = false) → fsV (fun r => g r && f r) (x + e) = fsV (fun r => g r && f r) x
  | 0, _ => rfl
  | e + 1, hg => by
    rw [← fsV_out e (fun r h1 h2 => hg r h1 (by omega))]
    show fsV (fun r => g r && f r) (x + e + 1) = _
    conv => lhs; unfold fsV
    rw [hg (x + e) (by omega) (by omega)]
    split
    · rename_i hh
      rw [hh]; rfl
    · rfl
theorem fb_out {g : Nat → Bool} {t : Nat → Nat} {x : Nat} : ∀ e, (∀ r, x ≤ r → r < x + e → g r = false) → fb g t (x + e) = fb g t x
  | 0, _ => rfl
  | e + 1, hg => by
    rw [← fb_out e (fun r h1 h2 => hg r h1 (by omega))]
    exact fb_skip (hg (x + e) (by omega) (by omega))
/-- what fits() knows behind the first r rows -/
def fiV (g f : Nat → Bool) (t : Nat → Nat) (n : Nat) (w : Int32) : Int := if w = 0 then (cnt (fun r => g r && f r) n : Nat) else if w = 1 then fsV (fun r => g r && f r) n else if w = 2 then oR (fb g t n) else oL (fb g t n)
/-- findPlaces: what is done up to p, q, i -/
def fpD (p q i p' q' i' : Nat) : Prop := p' < p ∨ (p' = p ∧ (q' < q ∨ (q' = q ∧ i' < i)))
def fpS (o : Nat) : Bool := (o == 72) || (o == 17) || cr 13 o
def fpI (h g : mH) (m n p q i : Nat) : Prop := Sm fpS h g ∧ FdOk g 13 ∧ (∀ k, 4 ≤ k → k < 12 → gI g 17 k = gI h 17 k) ∧ (∀ k, k < 4 → rg (gI g 17 k) 0 9) ∧ ∀ p' q' i', p' < 4 → q' ≤ m → i' < n → fpD p q i p' q' i' → gI g 72 (6 * (6 * p' + q') + i') = iI (aP h 14 15 16 17 p' q' (tkF h 36 i'))
theorem place_iI {p q i : Nat} (hp : p < 4) (hq : q ≤ 5) (hi : i < 6) : fX1_placeOf (iI (p : Int)) (iI (q : Int)) + iI (i : Int) = iI ((6 * (6 * p + q) + i : Nat) : Int) := by
  unfold fX1_placeOf
  rw [n_6, mu_n, ad_n, mu_n, ad_n]
theorem mX1_findPlaces {m n : Nat} (hi : Iv h) (hm : m ≤ 5) (hn : gI h 33 3 = iI n) (hp : PtR h 36 n) (hf : FR h 13) (hfd : FdOk h 13) (k : ∀ g, fpI h g m n 4 0 0 → Q (.inl none) g) : WM G jX1_findPlaces [.ref 71, .ref 13, .ref 33, .int (iI m)] h Q := by
  obtain ⟨n6, hpt⟩ := hp
  have hk13 : kd 13 = (2, 11) := rfl
  have hk33 : kd 33 = (3, 7) := rfl
  refine eX1_findPlaces hi hk13 hk33 ?_
  rw [n_0]
  have hst : fpI h h m n 0 0 0 := ⟨Sm.rf, hfd, fun _ _ _ => rfl, fun k hk => by have := (hf k hk).2.2.2.1; rw [Nat.zero_add] at this; exact this, fun p' q' i' _ _ _ hd => by unfold fpD at hd; omega⟩
  have L1 : ∀ (p q : Nat), p < 4 → q ≤ m → (∀ g, fpI h g m n p (q + 1) 0 → Vw G jX1_findPlaces 12 [some (.ref 71), some (.ref 13), some (.ref 33), some (.int (iI m)), some (.int (iI p)), some (.int (iI ((q + 1 : Nat) : Int))), none] [] g Q) → ∀ (d i : Nat) (g : mH), i + d = n → fpI h g m n p q i → gI g 17 p = iI (q : Nat) →
      Vw G jX1_findPlaces 30 [some (.ref 71), some (.ref 13), some (.ref 33), some (.int (iI m)), some (.int (iI p)), some (.int (iI q)), some (.int (iI i))] [] g Q := by
    intro p q hp4 hqm nx d
    have e1 : iI (q : Int) + 1 = iI ((q + 1 : Nat) : Int) := by rw [n_1, ad_n]
    induction d with
    | zero =>
      intro i g hin hg h17
      have : i = n := by omega
      subst this
      have hgn : gI g 33 3 = iI i := by rw [hg.1.gI (o := 33) rfl]; exact hn
      refine bX1_findPlaces_30 (hg.1.iv hi) hk13 hk33 ⟨fun _ => ?_, fun c => absurd ?_ c⟩
      · rw [e1]
        refine nx g ⟨hg.1, hg.2.1, hg.2.2.1, hg.2.2.2.1, fun p' q' i' a b c hd => hg.2.2.2.2 p' q' i' a b c ?_⟩
        unfold fpD at hd ⊢; omega
      · rw [hgn]; exact Int32.le_refl _
    | succ d ih =>
      intro i g hin hg h17
      have hil : i < n := by omega
      have gi := hg.1.iv hi
      have hgn : gI g 33 3 = iI n := by rw [hg.1.gI (o := 33) rfl]; exact hn
      have e3 : (3 : Int32) * iI (i : Int) = iI ((3 * i : Nat) : Int) := by rw [n_3, mu_n]
      have e4 : iI (i : Int) + 1 = iI ((i + 1 : Nat) : Int) := by rw [n_1, ad_n]
      have ht : gI g (33 + 3) (3 * i) = iI (tkF h 36 i : Nat) := by
        rw [hg.1.gI (o := 33 + 3) rfl]
        exact i32_nat (hpt i hil).1.1
      have htb : tkF h 36 i ≤ 9999 := by
        have := (hpt i hil).1.2
        unfold tkF; omega
      refine bX1_findPlaces_30 gi hk13 hk33 ⟨fun c => ?_, fun _ => ?_⟩
      · rw [hgn, le_n (by omega) (by omega)] at c
        omega
      · rw [e3, ix_n (by omega), ht]
        refine ⟨in_n (by omega) (by omega), ?_⟩
        have fr := hf p hp4
        have ok := fr.ok
        rw [Nat.zero_add, Nat.zero_add, Nat.zero_add] at ok
        obtain ⟨o1, o2, o3, o4, o5, o6, b1, b2, b3, b4, b5, b6, b7, b8, b9, b10, b11, b12⟩ := ok
        have okg : PnOk g (13 + 1) (13 + 2) (13 + 3) (13 + 4) 0 p (gI h 14 p).toInt (gI h 15 p).toInt (gI h 16 p).toInt (q : Int) (gI h 17 (4 + p)).toInt (gI h 17 (8 + p)).toInt := by
          refine ⟨?_, ?_, ?_, ?_, ?_, ?_, b1, b2, b3, b4, b5, b6, by omega, by omega, b9, b10, b11, b12⟩
          · rw [hg.1.gI (o := 13 + 1) rfl]; exact o1
          · rw [hg.1.gI (o := 13 + 2) rfl]; exact o2
          · rw [hg.1.gI (o := 13 + 3) rfl]; exact o3
          · rw [Nat.zero_add]; exact h17
          · rw [Nat.zero_add, hg.2.2.1 (4 + p) (by omega) (by omega)]; exact (iI_self _).symm
          · rw [Nat.zero_add, hg.2.2.1 (8 + p) (by omega) (by omega)]; exact (iI_self _).symm
        refine mX2_where (r := 13) gi hk13 hp4 (by omega) okg hg.2.1 (fun g2 hS2 hfd2 => ?_)
        have g2i := hS2.iv gi
        refine bX1_findPlaces_68 g2i hk13 hk33 ?_
        rw [place_iI hp4 (by omega) (by omega), ix_n (by omega), e4]
        refine ⟨in_n (by omega) (by omega), ih (i + 1) _ (by omega) ?_ ?_⟩
        · refine ⟨(hg.1.tr (hS2.wk (fun o ho => ?_))).pI rfl _ _, ?_, fun j h4 h12 => ?_, fun j h4 => ?_, fun p' q' i' a b c hd => ?_⟩
          · unfold fpS at ho; simp at ho; simp [ho]
          · exact FdOk_cg (Sm.pI (S := fun o => o == 72) Sm.rf rfl _ _) (by intro d d1 d2; simp; omega) hfd2
          · rw [gI_pI, if_neg (by omega), hS2.gI (o := 17) rfl]
            exact hg.2.2.1 j h4 h12
          · rw [gI_pI, if_neg (by omega), hS2.gI (o := 17) rfl]
            exact hg.2.2.2.1 j h4
          · rw [gI_pI]
            by_cases e : p' = p ∧ q' = q ∧ i' = i
            · obtain ⟨rfl, rfl, rfl⟩ := e
              rw [if_pos ⟨rfl, rfl⟩]
              rfl
            · rw [if_neg (by omega), hS2.gI (o := 72) rfl]
              refine hg.2.2.2.2 p' q' i' a b c ?_
              unfold fpD at hd ⊢; omega
        · rw [gI_pI, if_neg (by omega), hS2.gI (o := 17) rfl]
          exact h17
  have L2 : ∀ (p : Nat), p < 4 → (∀ g, fpI h g m n (p + 1) 0 0 → Vw G jX1_findPlaces 3 [some (.ref 71), some (.ref 13), some (.ref 33), some (.int (iI m)), some (.int (iI ((p + 1 : Nat) : Int))), none, none] [] g Q) → ∀ (d q : Nat) (g : mH), q + d = m + 1 → fpI h g m n p q 0 →
      Vw G jX1_findPlaces 12 [some (.ref 71), some (.ref 13), some (.ref 33), some (.int (iI m)), some (.int (iI p)), some (.int (iI q)), none] [] g Q := by
    intro p hp4 nx d
    have e1 : iI (p : Int) + 1 = iI ((p + 1 : Nat) : Int) := by rw [n_1, ad_n]
    induction d with
    | zero =>
      intro q g hqm hg
      refine bX1_findPlaces_12 (hg.1.iv hi) hk13 hk33 ⟨fun _ => ?_, fun c => absurd ?_ c⟩
      · rw [e1]
        refine nx g ⟨hg.1, hg.2.1, hg.2.2.1, hg.2.2.2.1, fun p' q' i' a b c hd => hg.2.2.2.2 p' q' i' a b c ?_⟩
        unfold fpD at hd ⊢; omega
      · rw [lt_n (by omega) (by omega)]; omega
    | succ d ih =>
      intro q g hqm hg
      refine bX1_findPlaces_12 (hg.1.iv hi) hk13 hk33 ⟨fun c => ?_, fun _ => ?_⟩
      · rw [lt_n (by omega) (by omega)] at c
        omega
      · rw [ix_n (by omega), n_0]
        refine ⟨in_n (by omega) (by omega), L1 p q hp4 (by omega) (fun g2 hg2 => ih (q + 1) g2 (by omega) hg2) n 0 _ (by omega) ?_ (by rw [gI_pI, if_pos ⟨rfl, rfl⟩])⟩
        refine ⟨hg.1.pI rfl _ _, ?_, fun j h4 h12 => ?_, fun j h4 => ?_, fun p' q' i' a b c hd => ?_⟩
        · exact FdOk_cg (Sm.pI (S := fun o => o == 17) Sm.rf rfl _ _) (by intro d d1 d2; simp; omega) hg.2.1
        · rw [gI_pI, if_neg (by omega)]
          exact hg.2.2.1 j h4 h12
        · rw [gI_pI]
          split
          · unfold rg
            rw [iI_toInt ⟨by omega, by omega⟩]
            omega
          · exact hg.2.2.2.1 j h4
        · rw [gI_pI, if_neg (by omega)]
          exact hg.2.2.2.2 p' q' i' a b c hd
  have L3 : ∀ (d p : Nat) (g : mH), p + d = 4 → fpI h g m n p 0 0 → Vw G jX1_findPlaces 3 [some (.ref 71), some (.ref 13), some (.ref 33), some (.int (iI m)), some (.int (iI p)), none, none] [] g Q := by
    intro d
    induction d with
    | zero =>
      intro p g hp4 hg
      have : p = 4 := by omega
      subst this
      exact bX1_findPlaces_3 (hg.1.iv hi) hk13 hk33 ⟨fun _ => k g hg, fun c => absurd (by decide) c⟩
    | succ d ih =>
      intro p g hp4 hg
      refine bX1_findPlaces_3 (hg.1.iv hi) hk13 hk33 ⟨fun c => ?_, fun _ => ?_⟩
      · rw [n_4, le_n (by omega) (by omega)] at c
        omega
      · rw [n_0]
        exact L2 p (by omega) (fun g2 hg2 => ih (p + 1) g2 (by omega) hg2) (m + 1) 0 g (by omega) hg
  exact L3 4 0 h (by omega) hst
end FITS
