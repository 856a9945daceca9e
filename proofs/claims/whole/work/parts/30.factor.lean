section FACTOR
variable {G : GX} {h : mH} {Q : mO → mH → Prop}
def ulG : Nat → Nat → Nat → Nat
  | 0, _, _ => 0
  | m + 1, a, b => (if a % 10 = b % 10 then 0 else 1) + ulG m (a / 10) (b / 10)
theorem ulG_le : ∀ m a b, ulG m a b ≤ m
  | 0, _, _ => Nat.le_refl _
  | m + 1, a, b => by
    have := ulG_le m (a / 10) (b / 10)
    unfold ulG
    split <;> omega
theorem ulG_mod (a b : Nat) : ulG 4 (a % 10000) (b % 10000) = ulG 4 a b := by
  have e0 : ∀ x : Nat, x % 10000 % 10 = x % 10 := fun x => by omega
  have e1 : ∀ x : Nat, x % 10000 / 10 % 10 = x / 10 % 10 := fun x => by omega
  have e2 : ∀ x : Nat, x % 10000 / 10 / 10 % 10 = x / 10 / 10 % 10 := fun x => by omega
  have e3 : ∀ x : Nat, x % 10000 / 10 / 10 / 10 % 10 = x / 10 / 10 / 10 % 10 := fun x => by omega
  simp only [ulG, e0, e1, e2, e3]
theorem ulG_0 (a b : Nat) : ulG 4 a b = 0 ↔ a % 10000 = b % 10000 := by
  simp only [ulG]
  repeat' split
  all_goals omega
/-- one pair of birthdays by a factor -/
def stp (d : Nat → Nat) (f a b : Nat) : Option Nat → Option Nat
  | none => none
  | some v => if d a = d b then some v else if ulG 4 (d a * f) (d b * f) = 0 then none else if ((d a : Int) - d b).natAbs ≤ 7 ∧ ulG 4 (d a * f) (d b * f) < v then some (ulG 4 (d a * f) (d b * f)) else some v
def rowF (d : Nat → Nat) (f a : Nat) : Nat → Option Nat → Option Nat
  | 0, s => s
  | b + 1, s => stp d f a b (rowF d f a b s)
def allF (d : Nat → Nat) (f : Nat) : Nat → Option Nat
  | 0 => some 4
  | a + 1 => rowF d f a a (allF d f a)
def oV : Option Nat → Int | none => -1 | some v => v
/-- a row goes on from a smaller number, or from nothing -/
def oLe (o p : Option Nat) : Prop := ∀ v, o = some v → ∃ w, p = some w ∧ v ≤ w
theorem oLe.rf {o : Option Nat} : oLe o o := fun v e => ⟨v, e, Nat.le_refl _⟩
theorem oLe.tr {o p q : Option Nat} (h1 : oLe o p) (h2 : oLe p q) : oLe o q := fun v e => by
  obtain ⟨w, e1, l1⟩ := h1 v e
  obtain ⟨x, e2, l2⟩ := h2 w e1
  exact ⟨x, e2, by omega⟩
theorem stp_le (d : Nat → Nat) (f a b : Nat) (s : Option Nat) : oLe (stp d f a b s) s := by
  intro v e
  cases s with
  | none => cases e
  | some w =>
    unfold stp at e
    simp only at e
    split at e
    · cases e; exact ⟨_, rfl, Nat.le_refl _⟩
    · split at e
      · cases e
      · split at e
        · rename_i hc
          cases e; exact ⟨_, rfl, by omega⟩
        · cases e; exact ⟨_, rfl, Nat.le_refl _⟩
theorem rowF_le (d : Nat → Nat) (f a : Nat) (s : Option Nat) : ∀ e b, oLe (rowF d f a (b + e) s) (rowF d f a b s)
  | 0, b => oLe.rf
  | e + 1, b => (stp_le d f a (b + e) _).tr (rowF_le d f a s e b)
theorem allF_le (d : Nat → Nat) (f : Nat) : ∀ m a, oLe (allF d f (a + m)) (allF d f a)
  | 0, a => oLe.rf
  | m + 1, a => by
    have h1 : oLe (allF d f (a + (m + 1))) (allF d f (a + m)) := by
      have := rowF_le d f (a + m) (allF d f (a + m)) (a + m) 0
      rw [Nat.zero_add] at this
      exact this
    exact h1.tr (allF_le d f m a)
theorem allF_4 (d : Nat → Nat) (f n v : Nat) (e : allF d f n = some v) : v ≤ 4 := by
  have := allF_le d f n 0
  rw [Nat.zero_add] at this
  obtain ⟨w, ew, lw⟩ := this v e
  cases ew
  exact lw
/-- the best factor up to k -/
def bst (d : Nat → Nat) (n : Nat) : Nat → Int × Int
  | 0 => (-1, -1)
  | k + 1 => if (bst d n k).2 < oV (allF d (k + 1) n) then ((k + 1 : Nat), oV (allF d (k + 1) n)) else bst d n k
theorem oV_b (d : Nat → Nat) (f n : Nat) : -1 ≤ oV (allF d f n) ∧ oV (allF d f n) ≤ 4 := by
  cases e : allF d f n with
  | none => exact ⟨by decide, by decide⟩
  | some v =>
    have := allF_4 d f n v e
    unfold oV
    simp only
    omega
theorem bst_b (d : Nat → Nat) (n : Nat) : ∀ k, -1 ≤ (bst d n k).1 ∧ (bst d n k).1 ≤ k ∧ -1 ≤ (bst d n k).2 ∧ (bst d n k).2 ≤ 4
  | 0 => by
    show (-1 : Int) ≤ -1 ∧ (-1 : Int) ≤ ((0 : Nat) : Int) ∧ (-1 : Int) ≤ -1 ∧ (-1 : Int) ≤ 4
    decide
  | k + 1 => by
    have ih := bst_b d n k
    have hv := oV_b d (k + 1) n
    unfold bst
    split
    · simp only
      omega
    · omega
theorem bst_done (d : Nat → Nat) (n k : Nat) (h4 : 4 ≤ (bst d n k).2) : ∀ m, bst d n (k + m) = bst d n k
  | 0 => rfl
  | m + 1 => by
    have ih := bst_done d n k h4 m
    have hv := oV_b d (k + m + 1) n
    show bst d n (k + m + 1) = _
    conv => lhs; unfold bst
    rw [ih, if_neg (by omega)]
theorem tm_iI {a : Nat} (ha : a ≤ 1000000) : iI (a : Int) - iI (a : Int) / (10 : Int32) * (10 : Int32) = iI ((a % 10 : Nat) : Int) := by
  rw [show (10 : Int32) = iI 10 from by decide, iI_rem ⟨by omega, by omega⟩ ⟨by decide, by decide⟩]
  rfl
theorem td_iI {a : Nat} (ha : a ≤ 1000000) : iI (a : Int) / (10 : Int32) = iI ((a / 10 : Nat) : Int) := by
  rw [show (10 : Int32) = iI 10 from by decide, iI_div ⟨by omega, by omega⟩ ⟨by decide, by decide⟩]
  rfl
theorem tm4_iI {a : Nat} (ha : a ≤ 1000000) : iI (a : Int) - iI (a : Int) / (10000 : Int32) * (10000 : Int32) = iI ((a % 10000 : Nat) : Int) := by
  rw [show (10000 : Int32) = iI 10000 from by decide, iI_rem ⟨by omega, by omega⟩ ⟨by decide, by decide⟩]
  rfl
theorem ul_eq {a b : Nat} (ha : a ≤ 1000000) (hb : b ≤ 1000000) : (iI ((a % 10 : Nat) : Int) = iI ((b % 10 : Nat) : Int)) ↔ a % 10 = b % 10 := by
  rw [iI_eq ⟨by omega, by omega⟩ ⟨by omega, by omega⟩]; omega
theorem mX5_unlikeFigures {a b : Nat} (hi : Iv h) (ha : a ≤ 1000000) (hb : b ≤ 1000000) (k : Q (.inl (some (.int (iI (ulG 4 a b : Nat))))) h) : WM G jX5_unlikeFigures [.int (iI a), .int (iI b)] h Q := by
  refine eX5_unlikeFigures hi ?_
  have loop : ∀ m i c a b : Nat, i + m = 4 → c ≤ i → a ≤ 1000000 → b ≤ 1000000 → Q (.inl (some (.int (iI (c + ulG m a b : Nat))))) h → Vw G jX5_unlikeFigures 10 [none, none, some (.int (iI c)), some (.int (iI a)), some (.int (iI b)), some (.int (iI i))] [] h Q := by
    intro m
    induction m with
    | zero =>
      intro i c a b him hc ha hb k
      have : i = 4 := by omega
      subst this
      exact bX5_unlikeFigures_10 hi ⟨fun _ => k, fun c => absurd (by decide) c⟩
    | succ m ih =>
      intro i c a b him hc ha hb k
      have e1 : iI (i : Int) + 1 = iI ((i + 1 : Nat) : Int) := by rw [iI_lit 1, iI_add]; congr 1
      have ec : iI (c : Int) + 1 = iI ((c + 1 : Nat) : Int) := by rw [iI_lit 1, iI_add]; congr 1
      have hl := ulG_le m (a / 10) (b / 10)
      refine bX5_unlikeFigures_10 hi ⟨fun z => ?_, fun _ => ?_⟩
      · rw [show (4 : Int32) = iI 4 from by decide, iI_le ⟨by decide, by decide⟩ ⟨by omega, by omega⟩] at z
        omega
      rw [tm_iI ha, tm_iI hb, ul_eq ha hb]
      unfold ulG at k
      refine ⟨fun z => bX5_unlikeFigures_31 hi ?_, fun z => bX5_unlikeFigures_31 hi ?_⟩
      · rw [td_iI ha, td_iI hb, e1]
        rw [if_pos z, Nat.zero_add] at k
        exact ih (i + 1) c (a / 10) (b / 10) (by omega) (by omega) (by omega) (by omega) k
      · rw [td_iI ha, td_iI hb, e1, ec]
        rw [if_neg z, ← Nat.add_assoc] at k
        exact ih (i + 1) (c + 1) (a / 10) (b / 10) (by omega) (by omega) (by omega) (by omega) k
  have := loop 4 0 0 a b (by omega) (by omega) ha hb (by rw [Nat.zero_add]; exact k)
  exact this
/-- days of a row -/
def dyV (h : mH) (a k : Nat) : Nat := (gI h a k).toInt.toNat
def DyR (h : mH) (a n : Nat) : Prop := n ≤ 10 ∧ ∀ k, k < n → rg (gI h a k) 0 364
theorem DyR.i {a n k : Nat} (hd : DyR h a n) (hk : k < n) : gI h a k = iI (dyV h a k : Nat) ∧ dyV h a k ≤ 364 := by
  obtain ⟨d1, d2⟩ := hd.2 k hk
  refine ⟨i32_nat d1, ?_⟩
  unfold dyV
  omega
def fwR (o : Option Nat) (F r : Int) : Prop := -1 ≤ r ∧ r ≤ 4 ∧ ((∃ v : Nat, o = some v ∧ F < v ∧ r = v) ∨ ((∀ v : Nat, o = some v → (v : Int) ≤ F) ∧ r ≤ F))
theorem same4 {x y f : Nat} : (((x : Int) - y).natAbs * f) % 10000 = 0 ↔ (x * f) % 10000 = (y * f) % 10000 := by
  rcases Nat.le_total y x with hxy | hxy
  · have e : ((x : Int) - y).natAbs = x - y := by omega
    rw [e, Nat.sub_mul]
    have : y * f ≤ x * f := Nat.mul_le_mul hxy (Nat.le_refl _)
    omega
  · have e : ((x : Int) - y).natAbs = y - x := by omega
    rw [e, Nat.sub_mul]
    have : x * f ≤ y * f := Nat.mul_le_mul hxy (Nat.le_refl _)
    omega
theorem mX5_fewestUnlike {f n : Nat} {F : Int} (hi : Iv h) (hf : f ≤ 999) (hn : gI h 33 5 = iI n) (hd : DyR h 37 n) (hF : gI h 80 1 = iI F) (F1 : -1 ≤ F) (F2 : F ≤ 3)
    (k : ∀ r : Int, fwR (allF (dyV h 37) f n) F r → Q (.inl (some (.int (iI r)))) h) : WM G jX5_fewestUnlike [.ref 80, .ref 33, .int (iI f)] h Q := by
  have hn10 := hd.1
  refine eX5_fewestUnlike (r1 := 33) hi rfl ?_
  have outer : ∀ m a : Nat, a + m = n → ∀ v : Nat, v ≤ 4 → allF (dyV h 37) f a = some v → Vw G jX5_fewestUnlike 5 [some (.ref 80), some (.ref 33), some (.int (iI f)), some (.int (iI v)), some (.int (iI a)), none, none] [] h Q := by
    intro m
    induction m with
    | zero =>
      intro a ham v hv hal
      have : a = n := by omega
      subst this
      refine bX5_fewestUnlike_5 hi rfl ⟨fun _ => k v ⟨by omega, by omega, ?_⟩, fun c => absurd ?_ c⟩
      · by_cases hFv : F < v
        · exact .inl ⟨v, hal, hFv, rfl⟩
        · exact .inr ⟨fun w hw => by rw [hal] at hw; cases hw; omega, by omega⟩
      · rw [hn]; exact Int32.le_refl _
    | succ m ih =>
      intro a ham v hv hal
      refine bX5_fewestUnlike_5 hi rfl ⟨fun c => ?_, fun _ => ⟨fun c => ?_, fun c => ?_⟩⟩
      · rw [hn, iI_le ⟨by omega, by omega⟩ ⟨by omega, by omega⟩] at c
        omega
      · rw [hF, iI_le ⟨by omega, by omega⟩ ⟨by omega, by omega⟩] at c
        refine k v ⟨by omega, by omega, .inr ⟨fun w hw => ?_, c⟩⟩
        have hle := allF_le (dyV h 37) f (m + 1) a
        rw [ham] at hle
        obtain ⟨x, ex, lx⟩ := hle w hw
        rw [hal] at ex
        cases ex
        omega
      · have inner : ∀ e b : Nat, b + e = a → ∀ v : Nat, v ≤ 4 → rowF (dyV h 37) f a b (allF (dyV h 37) f a) = some v → Vw G jX5_fewestUnlike 25 [some (.ref 80), some (.ref 33), some (.int (iI f)), some (.int (iI v)), some (.int (iI a)), some (.int (iI b)), none] [] h Q := by
          intro e
          induction e with
          | zero =>
            intro b hb v hv hr
            have : b = a := by omega
            subst this
            refine bX5_fewestUnlike_25 hi rfl ⟨fun _ => ?_, fun c => absurd (Int32.le_refl _) c⟩
            rw [show iI (b : Int) + 1 = iI ((b + 1 : Nat) : Int) from by rw [iI_lit 1, iI_add]; congr 1]
            exact ih (b + 1) (by omega) v hv hr
          | succ e ihe =>
            intro b hb v hv hr
            obtain ⟨ia, la⟩ := hd.i (k := a) (by omega)
            obtain ⟨ib, lb⟩ := hd.i (k := b) (by omega)
            have hax : (iI (a : Int)).toNatClampNeg = a := by rw [iI_ix ⟨by omega, by omega⟩]; rfl
            have hbx : (iI (b : Int)).toNatClampNeg = b := by rw [iI_ix ⟨by omega, by omega⟩]; rfl
            have hav : vp_in (iI (a : Int)) 10 := iI_in (by omega) (by omega) (by omega)
            have hbv : vp_in (iI (b : Int)) 10 := iI_in (by omega) (by omega) (by omega)
            have hrs : rowF (dyV h 37) f a (b + 1) (allF (dyV h 37) f a) = stp (dyV h 37) f a b (some v) := by
              show stp _ _ _ _ (rowF _ _ _ _ _) = _
              rw [hr]
            have next : ∀ w : Nat, w ≤ 4 → stp (dyV h 37) f a b (some v) = some w → Vw G jX5_fewestUnlike 108 [some (.ref 80), some (.ref 33), some (.int (iI f)), some (.int (iI w)), some (.int (iI a)), some (.int (iI b)), none] [] h Q := by
              intro w hw hst
              refine bX5_fewestUnlike_108 hi rfl ?_
              rw [show iI (b : Int) + 1 = iI ((b + 1 : Nat) : Int) from by rw [iI_lit 1, iI_add]; congr 1]
              exact ihe (b + 1) (by omega) w hw (by rw [hrs]; exact hst)
            refine bX5_fewestUnlike_25 hi rfl ⟨fun c => ?_, fun _ => ⟨hav, hbv, ?_⟩⟩
            · rw [iI_le ⟨by omega, by omega⟩ ⟨by omega, by omega⟩] at c
              omega
            rw [hax, hbx, ia, ib]
            obtain ⟨x, hx⟩ : ∃ x, x = dyV h 37 a := ⟨_, rfl⟩
            obtain ⟨y, hy⟩ : ∃ y, y = dyV h 37 b := ⟨_, rfl⟩
            rw [← hx] at la ia ⊢
            rw [← hy] at lb ib ⊢
            have hst : stp (dyV h 37) f a b (some v) = (if x = y then some v else if ulG 4 (x * f) (y * f) = 0 then none else if ((x : Int) - y).natAbs ≤ 7 ∧ ulG 4 (x * f) (y * f) < v then some (ulG 4 (x * f) (y * f)) else some v) := by
              rw [hx, hy]; rfl
            have hxf : x * f ≤ 364 * 999 := Nat.mul_le_mul la hf
            have hyf : y * f ≤ 364 * 999 := Nat.mul_le_mul lb hf
            rw [iI_sub, abs_iI (by omega) (by omega)]
            obtain ⟨D, hD⟩ : ∃ D, D = ((x : Int) - y).natAbs := ⟨_, rfl⟩
            have hD4 : D ≤ 364 := by omega
            have hDf : D * f ≤ 364 * 999 := Nat.mul_le_mul hD4 hf
            have hDxy : D = 0 ↔ x = y := by omega
            have hsame : (D * f) % 10000 = 0 ↔ ulG 4 (x * f) (y * f) = 0 := by rw [ulG_0, hD]; exact same4
            rw [← hD] at hst ⊢
            have z0 : iI (D : Int) = 0 ↔ D = 0 := by rw [i32_0, iI_eq ⟨by omega, by omega⟩ ⟨by decide, by decide⟩]; omega
            have hul := ulG_le 4 (x * f) (y * f)
            have at70 : ¬ (D ≠ 0 ∧ ulG 4 (x * f) (y * f) = 0) → Vw G jX5_fewestUnlike 70 [some (.ref 80), some (.ref 33), some (.int (iI f)), some (.int (iI v)), some (.int (iI a)), some (.int (iI b)), some (.int (iI (D : Int)))] [] h Q := by
              intro hok
              refine bX5_fewestUnlike_70 hi rfl ⟨fun c => next v hv ?_, fun c => ⟨fun c7 => next v hv ?_, fun c7 => ⟨hav, hbv, ?_⟩⟩⟩
              · rw [z0] at c
                rw [hst, if_pos (by omega)]
              · rw [z0] at c
                rw [show (7 : Int32) = iI 7 from by decide, iI_lt ⟨by decide, by decide⟩ ⟨by omega, by omega⟩] at c7
                rw [hst, if_neg (by omega), if_neg (by omega), if_neg (by omega)]
              · rw [z0] at c
                rw [show (7 : Int32) = iI 7 from by decide, iI_lt ⟨by decide, by decide⟩ ⟨by omega, by omega⟩] at c7
                rw [hax, hbx, ia, ib, iI_mul, iI_mul, ← Int.natCast_mul, ← Int.natCast_mul]
                refine mX5_unlikeFigures hi (by omega) (by omega) (bX5_fewestUnlike_104 hi rfl ?_)
                have hmin : fJ9_min_7cf53 (iI (v : Int)) (iI (ulG 4 (x * f) (y * f) : Nat)) = iI ((if ulG 4 (x * f) (y * f) < v then ulG 4 (x * f) (y * f) else v : Nat) : Int) := by
                  unfold fJ9_min_7cf53
                  simp only [iI_lt (a := (ulG 4 (x * f) (y * f) : Nat)) (b := (v : Int)) ⟨by omega, by omega⟩ ⟨by omega, by omega⟩, Int.ofNat_lt]
                  split <;> rfl
                rw [hmin]
                refine next _ (by split <;> omega) ?_
                rw [hst, if_neg (by omega), if_neg (by omega)]
                by_cases hlt : ulG 4 (x * f) (y * f) < v
                · rw [if_pos ⟨by omega, hlt⟩, if_pos hlt]
                · rw [if_neg (fun z => hlt z.2), if_neg hlt]
            refine ⟨fun c => at70 (fun z => z.1 (z0.mp c)), fun c => ⟨fun c1 => at70 ?_, fun c1 => ?_⟩⟩
            · rw [iI_mul, ← Int.natCast_mul, tm4_iI (by omega), i32_0, iI_eq ⟨by omega, by omega⟩ ⟨by decide, by decide⟩] at c1
              intro z
              have := hsame.mpr z.2
              omega
            · rw [iI_mul, ← Int.natCast_mul, tm4_iI (by omega), i32_0, iI_eq ⟨by omega, by omega⟩ ⟨by decide, by decide⟩] at c1
              rw [z0] at c
              have hu0 := hsame.mp (by omega)
              rw [m1_iI]
              refine k (-1) ⟨by omega, by omega, .inr ⟨fun w hw => ?_, F1⟩⟩
              have hnone : rowF (dyV h 37) f a (b + 1) (allF (dyV h 37) f a) = none := by
                rw [hrs, hst, if_neg (by omega), if_pos hu0]
              have h1 := rowF_le (dyV h 37) f a (allF (dyV h 37) f a) e (b + 1)
              rw [show b + 1 + e = a from by omega] at h1
              have h2 := allF_le (dyV h 37) f m (a + 1)
              rw [show a + 1 + m = n from by omega] at h2
              obtain ⟨x1, ex1, _⟩ := h2 w hw
              obtain ⟨x2, ex2, _⟩ := h1 x1 ex1
              rw [hnone] at ex2
              cases ex2
        exact inner a 0 (by omega) v hv hal
  by_cases hn0 : n = 0
  · subst hn0
    refine bX5_fewestUnlike_5 hi rfl ⟨fun _ => k 4 ⟨by omega, by omega, .inl ⟨4, rfl, by omega, rfl⟩⟩, fun c => absurd ?_ c⟩
    rw [hn]; decide
  · exact outer (n - 1) 1 (by omega) 4 (by omega) rfl
end FACTOR
