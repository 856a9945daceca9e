section FRAME
/-- a size, once through a period: by 100 less the loss, by 100 -/
def fd1 (lo s : Int) : Int := (s * (100 - lo)).tdiv 100
def fdN (lo : Int) : Nat → Int → Int
  | 0, s => s
  | n + 1, s => fd1 lo (fdN lo n s)
theorem fd1_le {lo s : Int} (h1 : 0 ≤ lo) (h2 : lo ≤ 100) (h3 : 0 ≤ s) : 0 ≤ fd1 lo s ∧ fd1 lo s ≤ s := by
  unfold fd1
  have h4 : 0 ≤ s * (100 - lo) := Int.mul_nonneg h3 (by omega)
  have h5 : s * (100 - lo) ≤ s * 100 := Int.mul_le_mul_of_nonneg_left (by omega) h3
  rw [Int.tdiv_eq_ediv_of_nonneg h4]
  omega
theorem fd1_lt {lo s : Int} (h1 : 1 ≤ lo) (h2 : lo ≤ 100) (h3 : 0 < s) : fd1 lo s < s := by
  unfold fd1
  have h4 : 0 ≤ s * (100 - lo) := Int.mul_nonneg (by omega) (by omega)
  have h5 : s * (100 - lo) ≤ s * 99 := Int.mul_le_mul_of_nonneg_left (by omega) (by omega)
  rw [Int.tdiv_eq_ediv_of_nonneg h4]
  omega
theorem fd1_0 (lo : Int) : fd1 lo 0 = 0 := by unfold fd1; rw [Int.zero_mul]; rfl
theorem fd1_lo0 (s : Int) (h : 0 ≤ s) : fd1 0 s = s := by
  unfold fd1
  rw [Int.tdiv_eq_ediv_of_nonneg (by omega)]
  omega
theorem fdN_le {lo s : Int} (h1 : 0 ≤ lo) (h2 : lo ≤ 100) (h3 : 0 ≤ s) : ∀ n, 0 ≤ fdN lo n s ∧ fdN lo n s ≤ s
  | 0 => ⟨h3, Int.le_refl _⟩
  | n + 1 => by
    have ih := fdN_le h1 h2 h3 n
    have := fd1_le h1 h2 ih.1
    exact ⟨this.1, Int.le_trans this.2 ih.2⟩
theorem fdN_stays {lo s : Int} : ∀ (n m : Nat), fdN lo n s = 0 → fdN lo (n + m) s = 0
  | n, 0, h => h
  | n, m + 1, h => by
    show fd1 lo (fdN lo (n + m) s) = 0
    rw [fdN_stays n m h, fd1_0]
theorem fdN_falls {lo s : Int} (h1 : 1 ≤ lo) (h2 : lo ≤ 100) (h3 : 0 ≤ s) : ∀ n : Nat, fdN lo n s = 0 ∨ fdN lo n s + n ≤ s
  | 0 => Or.inr (by show s + 0 ≤ s; omega)
  | n + 1 => by
    rcases fdN_falls h1 h2 h3 n with h | h
    · exact Or.inl (fdN_stays n 1 h)
    · by_cases hz : fdN lo n s = 0
      · exact Or.inl (fdN_stays n 1 hz)
      · have h4 := (fdN_le (by omega) h2 h3 n).1
        have := fd1_lt h1 h2 (s := fdN lo n s) (by omega)
        refine Or.inr ?_
        show fd1 lo (fdN lo n s) + ((n + 1 : Nat) : Int) ≤ s
        omega
theorem fdN_cap {lo s : Int} (h1 : 1 ≤ lo) (h2 : lo ≤ 100) (h3 : 0 ≤ s) (h4 : s ≤ 90) {n : Nat} (hn : 90 ≤ n) : fdN lo n s = fdN lo 90 s := by
  have h90 : fdN lo 90 s = 0 := by
    rcases fdN_falls h1 h2 h3 90 with h | h
    · exact h
    · have := (fdN_le (by omega) h2 h3 90).1
      omega
  have := fdN_stays 90 (n - 90) h90
  rw [show 90 + (n - 90) = n by omega] at this
  rw [this, h90]
theorem fdN_lo0 {s : Int} (h : 0 ≤ s) : ∀ n, fdN 0 n s = s
  | 0 => rfl
  | n + 1 => by
    show fd1 0 (fdN 0 n s) = s
    rw [fdN_lo0 h n, fd1_lo0 s h]
/-- where a pendulum is: kind, period, place in it, size -/
def posI (kk T u s : Int) : Int :=
  if kk = 0 then (if 4 * u ≤ T then (4 * u * s).tdiv T else if 4 * u ≤ 3 * T then ((2 * T - 4 * u) * s).tdiv T else ((4 * u - 4 * T) * s).tdiv T)
  else if kk = 1 then (if 2 * u ≤ T then (4 * (2 * u) * (T - 2 * u) * s).tdiv (T * T) else (-4 * (2 * u - T) * (T - (2 * u - T)) * s).tdiv (T * T))
  else if 2 * u < T then s else -s
def atI (kk ln lo pe sa sz : Int) (t : Nat) : Int := posI kk (ln + pe) (((t : Int) + sa) % (ln + pe)) (fdN lo (t / (ln + pe).toNat) sz)
theorem frc {r : Nat} (k : kd r = (2, 11)) : r = 3 ∨ r = 13 ∨ r = 23 ∨ r = 56 := by
  have hl := kd_lt k rfl
  revert k
  revert hl
  revert r
  decide +kernel
/-- the rows that keep faded sizes -/
def cch (o : Nat) : Bool := [10, 11, 12, 20, 21, 22, 30, 31, 32, 63, 64, 65].contains o
def cr (r : Nat) (o : Nat) : Bool := (o == r + 7) || ((o == r + 8) || (o == r + 9))
/-- a pendulum's numbers in the rows a1 (kinds), a2 (lengths), a3 (losses), a4 (settings from f on) -/
def PnOk (h : mH) (a1 a2 a3 a4 f p : Nat) (kk ln lo pe sa sz : Int) : Prop :=
  gI h a1 p = iI kk ∧ gI h a2 p = iI ln ∧ gI h a3 p = iI lo ∧ gI h a4 (f + p) = iI pe ∧ gI h a4 (f + (4 + p)) = iI sa ∧ gI h a4 (f + (8 + p)) = iI sz ∧
  0 ≤ kk ∧ kk ≤ 2 ∧ 2 ≤ ln ∧ ln ≤ 40 ∧ 0 ≤ lo ∧ lo ≤ 99 ∧ 0 ≤ pe ∧ pe ≤ 9 ∧ 0 ≤ sa ∧ sa ≤ 99 ∧ 0 ≤ sz ∧ sz ≤ 90
def FdOk (h : mH) (r : Nat) : Prop := ∀ p, p < 4 → ∃ lo sz : Int, gI h (r + 9) p = iI lo ∧ gI h (r + 8) p = iI sz ∧ 0 ≤ lo ∧ lo ≤ 99 ∧ 0 ≤ sz ∧ sz ≤ 90 ∧ ∀ i, i < 91 → gI h (r + 7) (91 * p + i) = iI (fdN lo i sz)
variable {G : GX} {h : mH} {Q : mO → mH → Prop}
theorem mX2_period {r p : Nat} (hi : Iv h) (k0 : kd r = (2, 11)) (hp : p < 4) (k : Q (.inl (some (.int (gI h (r + 2) p + gI h (r + 4) p)))) h) : WM G jX2_period [.ref r, .int (iI p)] h Q := by
  have hx : (iI p).toNatClampNeg = p := by rw [iI_ix ⟨by omega, by omega⟩]; rfl
  refine eX2_period hi k0 ⟨iI_in (by omega) (by omega) (by omega), iI_in (by omega) (by omega) (by omega), ?_⟩
  rw [hx]
  exact k
/-- the loop of fade -/
theorem fade_loop {r p : Nat} {lo sz : Int} (k0 : kd r = (2, 11)) (hp : p < 4) (b1 : 0 ≤ lo) (b2 : lo ≤ 99) (b3 : 0 ≤ sz) (b4 : sz ≤ 90) {h0 : mH} (hfd : FdOk h0 r)
    (kk : ∀ h', Sm (cr r) h0 h' → FdOk h' r → gI h' (r + 9) p = iI lo → gI h' (r + 8) p = iI sz → Q (.inl none) h') :
    ∀ (n i : Nat) (h : mH), i + n = 91 → Iv h → Sm (cr r) h0 h → gI h (r + 3) p = iI lo → gI h (r + 9) p = iI lo → gI h (r + 8) p = iI sz → (∀ q, q < 4 → q ≠ p → gI h (r + 9) q = gI h0 (r + 9) q ∧ gI h (r + 8) q = gI h0 (r + 8) q) → (∀ k, k < 364 → (k < 91 * p ∨ 91 * p + 91 ≤ k) → gI h (r + 7) k = gI h0 (r + 7) k) → (∀ k, k < i → gI h (r + 7) (91 * p + k) = iI (fdN lo k sz)) →
      Vw G jX2_fade 57 [some (.ref r), some (.int (iI p)), some (.int (iI (fdN lo i sz))), some (.int (iI i))] [] h Q := by
  have hx : (iI p).toNatClampNeg = p := by rw [iI_ix ⟨by omega, by omega⟩]; rfl
  intro n
  induction n with
  | zero =>
    intro i h hin hi hS h3 h9 h8 ho h7 hd
    have hi91 : i = 91 := by omega
    subst hi91
    refine bX2_fade_57 hi k0 ⟨fun _ => kk h hS (fun q hq => ?_) h9 h8, fun c => absurd (by decide) c⟩
    by_cases e : q = p
    · subst e
      exact ⟨lo, sz, h9, h8, b1, b2, b3, b4, hd⟩
    · obtain ⟨lo', sz', g1, g2, g3, g4, g5, g6, g7⟩ := hfd q hq
      refine ⟨lo', sz', (ho q hq e).1.trans g1, (ho q hq e).2.trans g2, g3, g4, g5, g6, fun k hk => ?_⟩
      rw [h7 _ (by omega) (by omega)]
      exact g7 k hk
  | succ n ih =>
    intro i h hin hi hS h3 h9 h8 ho h7 hd
    have hl : i < 91 := by omega
    have hix : (91 * iI p + iI i) = iI ((91 * p + i : Nat) : Int) := by
      rw [iI_lit 91, iI_mul, iI_add]
      congr 1
    have hnx : ((iI ((91 * p + i : Nat) : Int)).toNatClampNeg) = 91 * p + i := by
      rw [iI_ix ⟨by omega, by omega⟩]; rfl
    refine bX2_fade_57 hi k0 ⟨fun c => ?_, fun _ => ⟨?_, iI_in (by omega) (by omega) (by omega), ?_⟩⟩
    · rw [iI_lit 91, iI_le ⟨by decide, by decide⟩ ⟨by omega, by omega⟩] at c
      exact absurd c (by show ¬ (91 : Int) ≤ i; omega)
    · rw [hix]
      exact iI_in (by omega) (by omega) (by omega)
    · rw [hix, hnx, hx]
      have e3 : gI (pI h (r + 7) (91 * p + i) (iI (fdN lo i sz))) (r + 3) p = iI lo := by
        rw [gI_pI, if_neg (by omega)]; exact h3
      rw [e3]
      have hb := fdN_le b1 (by omega) b3 i
      have ev : (iI (fdN lo i sz) * (100 - iI lo)) / (100 : Int32) = iI (fdN lo (i + 1) sz) := by
        rw [iI_lit 100, iI_sub, iI_mul, iI_div]
        · rfl
        · have g1 : 0 ≤ fdN lo i sz * (100 - lo) := Int.mul_nonneg hb.1 (by omega)
          have g2 : fdN lo i sz * (100 - lo) ≤ fdN lo i sz * 100 := Int.mul_le_mul_of_nonneg_left (by omega) hb.1
          exact ⟨by show (_ : Int) ≤ fdN lo i sz * (100 - lo); omega, by show fdN lo i sz * (100 - lo) ≤ _; omega⟩
        · exact ⟨by decide, by decide⟩
      rw [ev]
      have ei : iI i + 1 = iI ((i + 1 : Nat) : Int) := by
        rw [iI_lit 1, iI_add]
        congr 1
      rw [ei]
      refine ih (i + 1) _ (by omega) hi (hS.pI (by simp [cr]) _ _) ?_ ?_ ?_ ?_ ?_ ?_
      · exact e3
      · rw [gI_pI, if_neg (by omega)]; exact h9
      · rw [gI_pI, if_neg (by omega)]; exact h8
      · intro q hq e
        rw [gI_pI, if_neg (by omega), gI_pI, if_neg (by omega)]
        exact ho q hq e
      · intro k hk hk2
        rw [gI_pI, if_neg (by omega)]
        exact h7 k hk hk2
      · intro k hk
        rw [gI_pI]
        by_cases e : k = i
        · subst e
          rw [if_pos ⟨rfl, rfl⟩]
        · rw [if_neg (by omega)]
          exact hd k (by omega)
/-- fade(p): the row of p is right for its size and loss -/
theorem mX2_fade {r p : Nat} {lo sz : Int} (hi : Iv h) (k0 : kd r = (2, 11)) (hp : p < 4) (b1 : 0 ≤ lo) (b2 : lo ≤ 99) (b3 : 0 ≤ sz) (b4 : sz ≤ 90) (hlo : gI h (r + 3) p = iI lo) (hsz : gI h (r + 4) (8 + p) = iI sz) (hfd : FdOk h r)
    (kk : ∀ h', Sm (cr r) h h' → FdOk h' r → gI h' (r + 9) p = iI lo → gI h' (r + 8) p = iI sz → Q (.inl none) h') : WM G jX2_fade [.ref r, .int (iI p)] h Q := by
  have hx : (iI p).toNatClampNeg = p := by rw [iI_ix ⟨by omega, by omega⟩]; rfl
  have h8 : (8 : Int32) + iI p = iI ((8 + p : Nat) : Int) := by
    rw [iI_lit 8, iI_add]; congr 1
  have h8x : (iI ((8 + p : Nat) : Int)).toNatClampNeg = 8 + p := by rw [iI_ix ⟨by omega, by omega⟩]; rfl
  have v4 : vp_in (iI p) 4 := iI_in (by omega) (by omega) (by omega)
  have go : Vw G jX2_fade 36 [some (.ref r), some (.int (iI p)), some (.int (iI sz)), none] [] h Q := by
    refine bX2_fade_36 hi k0 ⟨v4, v4, v4, ?_⟩
    rw [hx]
    have e3 : gI (pI h (r + 8) p (iI sz)) (r + 3) p = iI lo := by rw [gI_pI, if_neg (by omega)]; exact hlo
    rw [e3]
    refine fade_loop (h0 := h) k0 hp b1 b2 b3 b4 hfd kk 91 0 _ rfl hi ((Sm.rf.pI (by simp [cr]) _ _).pI (by simp [cr]) _ _) ?_ ?_ ?_ ?_ ?_ (fun k hk => absurd hk (Nat.not_lt_zero k))
    · rw [gI_pI, if_neg (by omega)]; exact e3
    · rw [gI_pI, if_pos ⟨rfl, rfl⟩]
    · rw [gI_pI, if_neg (by omega), gI_pI, if_pos ⟨rfl, rfl⟩]
    · intro q hq e
      rw [gI_pI, if_neg (by omega), gI_pI, if_neg (by omega), gI_pI, if_neg (by omega), gI_pI, if_neg (by omega)]
      exact ⟨rfl, rfl⟩
    · intro k _ _
      rw [gI_pI, if_neg (by omega), gI_pI, if_neg (by omega)]
  refine eX2_fade hi k0 ⟨by rw [h8]; exact iI_in (by omega) (by omega) (by omega), v4, fun _ => ?_, fun c1 => ⟨v4, v4, fun _ => ?_, fun c2 => ?_⟩⟩
  · rw [h8, h8x, hsz]; exact go
  · rw [h8, h8x, hsz]; exact go
  · rw [h8, h8x, hx, hsz] at c1
    rw [hx, hlo] at c2
    exact kk h Sm.rf hfd c2 c1
end FRAME
