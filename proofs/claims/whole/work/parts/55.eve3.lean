section EVE3
variable {G : GX} {h : mH} {Q : mO → mH → Prop}
def d4 (u v : Nat → Int) : Nat := (u 0 - v 0).natAbs + (u 1 - v 1).natAbs + (u 2 - v 2).natAbs + (u 3 - v 3).natAbs
def d4n (u v : Nat → Int) : Nat → Nat
  | 0 => 0
  | p + 1 => d4n u v p + (u p - v p).natAbs
theorem d4n_4 (u v : Nat → Int) : d4n u v 4 = d4 u v := by unfold d4 d4n d4n d4n d4n d4n; omega
theorem d4n_b {u v : Nat → Int} : ∀ n, (∀ p, p < n → (0 ≤ u p ∧ u p ≤ 9) ∧ (0 ≤ v p ∧ v p ≤ 9)) → d4n u v n ≤ 9 * n
  | 0, _ => Nat.zero_le _
  | n + 1, hh => by
    have := d4n_b n (fun p hp => hh p (by omega))
    obtain ⟨⟨a, b⟩, c, d⟩ := hh n (by omega)
    unfold d4n
    omega
def rwI (h : mH) (a f p : Nat) : Int := (gI h a (f + p)).toInt
/-- how many pennies are moved from x to y: portraits, 8 the pennies as they are, 9 none -/
def dE (h : mH) (a4 aP np x y : Nat) : Nat := if y < np then (if x = 8 then d4 (rwI h a4 0) (rwI h aP (12 * y)) else if x = 9 then d4 (fun _ => 0) (rwI h aP (12 * y)) else if x < np then d4 (rwI h aP (12 * x)) (rwI h aP (12 * y)) else 0) else 0
def pnR (h : mH) (a f : Nat) : Prop := ∀ p, p < 4 → rg (gI h a (f + p)) 0 9
theorem d4_b {u v : Nat → Int} (hh : ∀ p, p < 4 → (0 ≤ u p ∧ u p ≤ 9) ∧ (0 ≤ v p ∧ v p ≤ 9)) : d4 u v ≤ 36 := by
  rw [← d4n_4]
  have := d4n_b 4 hh
  omega
theorem dE_b {h : mH} {a4 aP np : Nat} (h4 : pnR h a4 0) (hP : ∀ i, i < np → pnR h aP (12 * i)) (x y : Nat) : dE h a4 aP np x y ≤ 100 := by
  unfold dE
  repeat' split
  · refine Nat.le_trans (d4_b fun p hp => ⟨h4 p hp, hP y (by assumption) p hp⟩) (by omega)
  · refine Nat.le_trans (d4_b fun p hp => ⟨⟨Int.le_refl _, by omega⟩, hP y (by assumption) p hp⟩) (by omega)
  · refine Nat.le_trans (d4_b fun p hp => ⟨hP x (by assumption) p hp, hP y (by assumption) p hp⟩) (by omega)
  · omega
  · omega
theorem mX0_pennies {a b na nb f g : Nat} (hi : Iv h) (ka : kd a = (100, na)) (kb : kd b = (100, nb)) (na9 : na ≤ 1000) (nb9 : nb ≤ 1000) (hf : f + 4 ≤ na) (hg : g + 4 ≤ nb) (h1 : pnR h a f) (h2 : pnR h b g) (k : Q (.inl (some (.int (iI (d4 (rwI h a f) (rwI h b g) : Nat))))) h) : WM G jX0_pennies [.ref a, .int (iI f), .ref b, .int (iI g)] h Q := by
  refine eX0_pennies hi ka kb ?_
  rw [n_0]
  have loop : ∀ (d p : Nat), p + d = 4 → Vw G jX0_pennies 6 [some (.ref a), some (.int (iI f)), some (.ref b), some (.int (iI g)), some (.int (iI (d4n (rwI h a f) (rwI h b g) p : Nat))), some (.int (iI p))] [] h Q := by
    intro d
    induction d with
    | zero =>
      intro p hp
      have : p = 4 := by omega
      subst this
      rw [d4n_4]
      exact bX0_pennies_6 hi ka kb ⟨fun _ => k, fun z => absurd (by decide) z⟩
    | succ d ih =>
      intro p hp
      have e1 : iI (p : Int) + 1 = iI ((p + 1 : Nat) : Int) := by rw [n_1, ad_n]
      have r1 : 0 ≤ rwI h a f p ∧ rwI h a f p ≤ 9 := h1 p (by omega)
      have r2 : 0 ≤ rwI h b g p ∧ rwI h b g p ≤ 9 := h2 p (by omega)
      refine bX0_pennies_6 hi ka kb ⟨fun z => ?_, fun _ => ?_⟩
      · rw [n_4, le_n (by omega) (by omega)] at z
        omega
      · rw [ad_n, ad_n, ix_n (by omega), ix_n (by omega), e1]
        refine ⟨in_n (by omega) (by omega), in_n (by omega) (by omega), ?_⟩
        rw [← iI_self (gI h a (f + p)), ← iI_self (gI h b (g + p)), iI_sub, abs_iI (by unfold rwI at *; omega) (by unfold rwI at *; omega), ad_n]
        exact ih (p + 1) (by omega)
  exact loop 4 0 (by omega)
theorem apart_iI {x y : Nat} : fX0_apartOf (iI (x : Int)) (iI (y : Int)) = iI ((8 * x + y : Nat) : Int) := by
  unfold fX0_apartOf
  rw [n_8, mu_n, ad_n]
theorem state_iI {x y : Nat} : fX0_stateOf (iI (x : Int)) (iI (y : Int)) = iI ((8 * x + y : Nat) : Int) := by
  unfold fX0_stateOf
  rw [n_8, mu_n, ad_n]
/-- row 77 tells the distances -/
def apR (D : Nat → Nat → Nat) (np : Nat) (g : mH) : Prop := ∀ x y, y < np → (x < np ∨ x = 8 ∨ x = 9) → gI g 77 (8 * x + y) = iI (D x y : Nat)
theorem mX0_measure {np : Nat} (hi : Iv h) (hn : gI h 33 1 = iI np) (h8 : np ≤ 8) (h4 : pnR h 7 0) (hP : ∀ i, i < np → pnR h 35 (12 * i)) (k : ∀ g, Sm (fun o => o == 77) h g → apR (dE h 7 35 np) np g → Q (.inl none) g) : WM G jX0_measure [.ref 75, .ref 33, .ref 7] h Q := by
  have k1 : kd 33 = (3, 7) := rfl
  have k2 : kd 7 = (100, 12) := rfl
  have k3 : kd (33 + 2) = (100, 96) := rfl
  have pn : ∀ {g : mH}, Sm (fun o => o == 77) h g → ∀ {a f : Nat}, (a == 77) = false → pnR h a f → pnR g a f := fun hS a f ha hp p h4 => by rw [hS.gI (o := a) ha]; exact hp p h4
  have rw7 : ∀ {g : mH}, Sm (fun o => o == 77) h g → ∀ {a : Nat}, (a == 77) = false → ∀ f, rwI g a f = rwI h a f := fun hS a ha f => funext fun p => by unfold rwI; rw [hS.gI (o := a) ha]
  have e12 : ∀ j : Nat, (12 : Int32) * iI (j : Int) = iI ((12 * j : Nat) : Int) := fun j => by rw [n_12, mu_n]
  refine eX0_measure hi k1 k2 ?_
  rw [n_0]
  have outer : ∀ (d y : Nat) (g : mH), y + d = np → Sm (fun o => o == 77) h g → (∀ x y', y' < y → (x < np ∨ x = 8 ∨ x = 9) → gI g 77 (8 * x + y') = iI (dE h 7 35 np x y' : Nat)) → Vw G jX0_measure 8 [some (.ref 75), some (.ref 33), some (.ref 7), some (.ref (33 + 2)), some (.int (iI y)), none, none] [] g Q := by
    intro d
    induction d with
    | zero =>
      intro y g hy hS hd
      have : y = np := by omega
      subst this
      refine bX0_measure_8 (hS.iv hi) k1 k2 k3 ⟨fun _ => k g hS hd, fun z => absurd ?_ z⟩
      rw [hS.gI (o := 33) rfl, hn]
      exact Int32.le_refl _
    | succ d ih =>
      intro y g hy hS hd
      have gi := hS.iv hi
      have hyn : y < np := by omega
      have e1 : iI (y : Int) + 1 = iI ((y + 1 : Nat) : Int) := by rw [n_1, ad_n]
      have hgn : gI g 33 1 = iI np := by rw [hS.gI (o := 33) rfl]; exact hn
      refine bX0_measure_8 gi k1 k2 k3 ⟨fun z => ?_, fun _ => ?_⟩
      · rw [hgn, le_n (by omega) (by omega)] at z
        omega
      · rw [n_0]
        have inner : ∀ (e x : Nat) (g : mH), x + e = np → Sm (fun o => o == 77) h g → (∀ x' y', y' < y → (x' < np ∨ x' = 8 ∨ x' = 9) → gI g 77 (8 * x' + y') = iI (dE h 7 35 np x' y' : Nat)) → (∀ x', x' < x → gI g 77 (8 * x' + y) = iI (dE h 7 35 np x' y : Nat)) → Vw G jX0_measure 20 [some (.ref 75), some (.ref 33), some (.ref 7), some (.ref (33 + 2)), some (.int (iI y)), some (.int (iI x)), none] [] g Q := by
          intro e
          induction e with
          | zero =>
            intro x g hx hS hd hr
            have : x = np := by omega
            subst this
            have gi := hS.iv hi
            have hgn : gI g 33 1 = iI x := by rw [hS.gI (o := 33) rfl]; exact hn
            refine bX0_measure_20 gi k1 k2 k3 ⟨fun _ => ?_, fun z => absurd (by rw [hgn]; exact Int32.le_refl _) z⟩
            rw [e12, show (8 : Int32) = iI ((8 : Nat) : Int) from by decide, show (0 : Int32) = iI ((0 : Nat) : Int) from by decide, apart_iI]
            refine mX0_pennies gi k2 k3 (by omega) (by omega) (by omega) (by omega) (pn hS rfl h4) (pn hS rfl (hP y hyn)) ?_
            rw [rw7 hS rfl, rw7 hS rfl]
            refine bX0_measure_84 gi k1 k2 k3 ?_
            rw [ix_n (by omega)]
            refine ⟨in_n (by omega) (by omega), ?_⟩
            have d8 : d4 (rwI h 7 0) (rwI h (33 + 2) (12 * y)) = dE h 7 35 x 8 y := by unfold dE; rw [if_pos hyn, if_pos rfl]
            rw [d8, n_0]
            have S2 : Sm (fun o => o == 77) h (pI g 77 (8 * 8 + y) (iI (dE h 7 35 x 8 y : Nat))) := hS.pI rfl _ _
            generalize hg2 : pI g 77 (8 * 8 + y) (iI (dE h 7 35 x 8 y : Nat)) = g2 at *
            have last : ∀ (e2 p : Nat), p + e2 = 4 → Vw G jX0_measure 91 [some (.ref 75), some (.ref 33), some (.ref 7), some (.ref (33 + 2)), some (.int (iI y)), some (.int (iI (d4n (fun _ => 0) (rwI h 35 (12 * y)) p : Nat))), some (.int (iI p))] [] g2 Q := by
              intro e2
              induction e2 with
              | zero =>
                intro p hp
                have : p = 4 := by omega
                subst this
                refine bX0_measure_91 (S2.iv hi) k1 k2 k3 ⟨fun _ => ?_, fun z => absurd (by decide) z⟩
                rw [show (9 : Int32) = iI ((9 : Nat) : Int) from by decide, apart_iI, ix_n (by omega), e1]
                refine ⟨in_n (by omega) (by omega), ih (y + 1) _ (by omega) (S2.pI rfl _ _) (fun x' y' hy' hx' => ?_)⟩
                have d9 : d4n (fun _ => 0) (rwI h 35 (12 * y)) 4 = dE h 7 35 x 9 y := by rw [d4n_4]; unfold dE; rw [if_pos hyn, if_neg (by omega), if_pos rfl]
                rw [d9]
                by_cases c1 : y' = y
                · subst c1
                  by_cases c2 : x' = 9
                  · subst c2
                    rw [gI_pI, if_pos ⟨rfl, rfl⟩]
                  · rw [gI_pI, if_neg (by omega), ← hg2, gI_pI]
                    by_cases c3 : x' = 8
                    · subst c3
                      rw [if_pos ⟨rfl, rfl⟩]
                    · rw [if_neg (by omega)]
                      exact hr x' (by omega)
                · rw [gI_pI, if_neg (by omega), ← hg2, gI_pI, if_neg (by omega)]
                  exact hd x' y' (by omega) hx'
              | succ e2 ih2 =>
                intro p hp
                have e5 : iI (p : Int) + 1 = iI ((p + 1 : Nat) : Int) := by rw [n_1, ad_n]
                have r2 : 0 ≤ rwI h 35 (12 * y) p ∧ rwI h 35 (12 * y) p ≤ 9 := hP y hyn p (by omega)
                refine bX0_measure_91 (S2.iv hi) k1 k2 k3 ⟨fun z => ?_, fun _ => ?_⟩
                · rw [n_4, le_n (by omega) (by omega)] at z
                  omega
                · rw [e12, ad_n, ix_n (by omega), e5, S2.gI (o := 33 + 2) rfl]
                  refine ⟨in_n (by omega) (by omega), ?_⟩
                  have hv : gI h (33 + 2) (12 * y + p) = iI (((0 - rwI h 35 (12 * y) p).natAbs : Nat) : Int) := by
                    rw [show (((0 - rwI h 35 (12 * y) p).natAbs : Nat) : Int) = rwI h 35 (12 * y) p from by omega]
                    exact (iI_self _).symm
                  rw [hv, ad_n]
                  exact ih2 (p + 1) (by omega)
            exact last 4 0 (by omega)
          | succ e ihx =>
            intro x g hx hS hd hr
            have gi := hS.iv hi
            have e2 : iI (x : Int) + 1 = iI ((x + 1 : Nat) : Int) := by rw [n_1, ad_n]
            have hgn : gI g 33 1 = iI np := by rw [hS.gI (o := 33) rfl]; exact hn
            refine bX0_measure_20 gi k1 k2 k3 ⟨fun z => ?_, fun _ => ?_⟩
            · rw [hgn, le_n (by omega) (by omega)] at z
              omega
            · rw [e12, e12, apart_iI]
              refine mX0_pennies gi k3 k3 (by omega) (by omega) (by omega) (by omega) (pn hS rfl (hP x (by omega))) (pn hS rfl (hP y hyn)) ?_
              rw [rw7 hS rfl, rw7 hS rfl]
              refine bX0_measure_55 gi k1 k2 k3 ?_
              rw [ix_n (by omega), e2]
              have dx : d4 (rwI h (33 + 2) (12 * x)) (rwI h (33 + 2) (12 * y)) = dE h 7 35 np x y := by unfold dE; rw [if_pos hyn, if_neg (by omega), if_neg (by omega), if_pos (by omega)]
              rw [dx]
              refine ⟨in_n (by omega) (by omega), ihx (x + 1) _ (by omega) (hS.pI rfl _ _) (fun x' y' hy' hx' => ?_) (fun x' hx' => ?_)⟩
              · rw [gI_pI, if_neg (by omega)]
                exact hd x' y' hy' hx'
              · rw [gI_pI]
                by_cases c : x' = x
                · subst c
                  rw [if_pos ⟨rfl, rfl⟩]
                · rw [if_neg (by omega)]
                  exact hr x' (by omega)
        exact inner np 0 g (by omega) hS hd (fun x' hx' => absurd hx' (by omega))
  exact outer np 0 h (by omega) Sm.rf (fun x y' hy' => absurd hy' (by omega))
theorem min_n {a b : Nat} (ha : a ≤ 2147483647) (hb : b ≤ 2147483647) : fJ9_min_7cf53 (iI (a : Int)) (iI (b : Int)) = iI ((min a b : Nat) : Int) := by
  unfold fJ9_min_7cf53
  by_cases c : b < a
  · rw [if_pos ((lt_n hb ha).mpr c), Nat.min_eq_right (by omega)]
  · rw [if_neg (fun z => c ((lt_n hb ha).mp z)), Nat.min_eq_left (by omega)]
theorem has_v : ∀ R, R < 256 → ∀ y, y < 8 → fX0_has (iI ((R : Nat) : Int)) (iI ((y : Nat) : Int)) = bL (bt R y) := by decide +kernel
theorem xor_v : ∀ R, R < 256 → ∀ y, y < 8 → bt R y = true → iI ((R : Nat) : Int) ^^^ ((1 : Int32) <<< (iI ((y : Nat) : Int) &&& 31)) = iI ((rm R y : Nat) : Int) ∧ iI ((R : Nat) : Int) &&& (((1 : Int32) <<< (iI ((y : Nat) : Int) &&& 31)) ^^^ (-1)) = iI ((rm R y : Nat) : Int) := by decide +kernel
/-- the tables' entry of what is left and the last one -/
def tbR (D : Nat → Nat → Nat) (g : mH) (R x : Nat) : Prop := gI g 78 (8 * R + x) = iI (frV D (pc R) R x : Nat) ∧ gI g 79 (8 * R + x) = iI (rsV D (pc R) R x : Nat)
theorem mX0_weigh {D : Nat → Nat → Nat} {np S R x : Nat} (hi : Iv h) (hD : ∀ x y, D x y ≤ 100) (h8 : np ≤ 8) (hap : apR D np h) (hS8 : ∀ y, y < 8 → bt S y = true → y < np) (hR : R < 256) (hx : x < np) (hsub : ∀ y, y < 8 → bt R y = true → bt S y = true) (hT : ∀ y, y < 8 → bt R y = true → tbR D h (rm R y) y)
    (k : ∀ g, Sm (fun o => o == 78 || (o == 79)) h g → tbR D g R x → (∀ j, j ≠ 8 * R + x → gI g 78 j = gI h 78 j ∧ gI g 79 j = gI h 79 j) → Q (.inl none) g) : WM G jX0_weigh [.ref 75, .int (iI R), .int (iI x)] h Q := by
  have p8 := pc_8 R
  have fin : ∀ F C : Nat, F = frV D (pc R) R x → C = rsV D (pc R) R x → Vw G jX0_weigh 17 [some (.ref 75), some (.int (iI R)), some (.int (iI x)), some (.int (iI F)), some (.int (iI C)), some (.int (iI ((8 : Nat) : Int))), none, none, none] [] h Q := by
    intro F C hF hC
    refine bX0_weigh_17 hi ⟨fun _ => ?_, fun z => absurd (by decide) z⟩
    rw [state_iI, ix_n (by omega)]
    refine ⟨in_n (by omega) (by omega), in_n (by omega) (by omega), k _ ((Sm.rf.pI rfl _ _).pI rfl _ _) ⟨?_, ?_⟩ (fun j hj => ⟨?_, ?_⟩)⟩
    · rw [gI_pI, if_neg (by omega), gI_pI, if_pos ⟨rfl, rfl⟩, hF]
    · rw [gI_pI, if_pos ⟨rfl, rfl⟩, hC]
    · rw [gI_pI, if_neg (by omega), gI_pI, if_neg (by omega)]
    · rw [gI_pI, if_neg (by omega), gI_pI, if_neg (by omega)]
  refine eX0_weigh hi ⟨fun c => ?_, fun c => ?_⟩
  · rw [n_0, eq_n (by omega) (by omega)] at c
    have hp : 0 < pc R := by
      refine Nat.pos_of_ne_zero (fun z => c (pc_0 R hR z))
    obtain ⟨q, hq⟩ : ∃ q, pc R = q + 1 := ⟨pc R - 1, by omega⟩
    rw [n_0, n_1000000]
    have loop : ∀ (d y : Nat), y + d = 8 → Vw G jX0_weigh 17 [some (.ref 75), some (.int (iI R)), some (.int (iI x)), some (.int (iI (mnV (fun y => min (D x y + frV D q (rm R y) y) (D 9 y + rsV D q (rm R y) y)) (bt R) y : Nat))), some (.int (iI (mnV (fun y => D x y + rsV D q (rm R y) y) (bt R) y : Nat))), some (.int (iI y)), none, none, none] [] h Q := by
      intro d
      induction d with
      | zero =>
        intro y hy
        have : y = 8 := by omega
        subst this
        exact fin _ _ (by rw [hq]; rfl) (by rw [hq]; rfl)
      | succ d ih =>
        intro y hy
        have hy8 : y < 8 := by omega
        have e1 : iI (y : Int) + 1 = iI ((y + 1 : Nat) : Int) := by rw [n_1, ad_n]
        have nx := ih (y + 1) (by omega)
        have b1 : ∀ (f : Nat → Nat) z, mnV f (bt R) z ≤ 1000000 := fun f z => by
          induction z with
          | zero => exact Nat.le_refl _
          | succ z ihz =>
            unfold mnV
            split
            · exact Nat.le_trans (Nat.min_le_left _ _) ihz
            · exact ihz
        refine bX0_weigh_17 hi ⟨fun z => ?_, fun _ => ⟨fun z => ?_, fun z => ?_⟩⟩
        · rw [n_8, le_n (by omega) (by omega)] at z
          omega
        · rw [has_v R hR y hy8, bL_0] at z
          refine bX0_weigh_118 hi ?_
          rw [e1]
          have s1 : ∀ f : Nat → Nat, mnV f (bt R) (y + 1) = mnV f (bt R) y := fun f => by
            conv => lhs; unfold mnV
            rw [z]; rfl
          rw [s1, s1] at nx
          exact nx
        · have hb : bt R y = true := by
            cases hh : bt R y with
            | true => rfl
            | false => rw [has_v R hR y hy8, hh] at z; exact absurd rfl z
          obtain ⟨r1, r2, r3⟩ := bt_rm R hR y hy8 hb
          have hyn := hS8 y hy8 (hsub y hy8 hb)
          obtain ⟨t1, t2⟩ := hT y hy8 hb
          have hqq : pc (rm R y) = q := by omega
          rw [hqq] at t1 t2
          have fb := frV_b hD q (rm R y) y (by omega) hqq
          have rb := rsV_b hD q (rm R y) y (by omega) hqq
          have d1 := hD x y
          have d2 := hD 9 y
          rw [(xor_v R hR y hy8 hb).1, show (9 : Int32) = iI ((9 : Nat) : Int) from by decide, apart_iI, apart_iI, state_iI, ix_n (by omega), ix_n (by omega), ix_n (by omega), hap x y hyn (by omega), hap 9 y hyn (by omega), t1, t2, ad_n, ad_n, ad_n]
          have b2 := b1 (fun y => min (D x y + frV D q (rm R y) y) (D 9 y + rsV D q (rm R y) y)) y
          have b3 := b1 (fun y => D x y + rsV D q (rm R y) y) y
          have m1 := Nat.min_le_left (D x y + frV D q (rm R y) y) (D 9 y + rsV D q (rm R y) y)
          rw [min_n (by omega) (by omega), min_n (by omega) (by omega), min_n (by omega) (by omega)]
          refine ⟨in_n (by omega) (by omega), in_n (by omega) (by omega), in_n (by omega) (by omega), in_n (by omega) (by omega), in_n (by omega) (by omega), bX0_weigh_118 hi ?_⟩
          rw [e1]
          have s1 : ∀ f : Nat → Nat, mnV f (bt R) (y + 1) = min (mnV f (bt R) y) (f y) := fun f => by
            conv => lhs; unfold mnV
            rw [hb]; rfl
          rw [s1, s1] at nx
          exact nx
    exact loop 8 0 (by omega)
  · rw [n_0, eq_n (by omega) (by omega)] at c
    have hp0 : pc R = 0 := by rw [c]; decide
    rw [n_0]
    have loop : ∀ (d y : Nat), y + d = 8 → Vw G jX0_weigh 17 [some (.ref 75), some (.int (iI R)), some (.int (iI x)), some (.int (iI ((0 : Nat) : Int))), some (.int (iI ((0 : Nat) : Int))), some (.int (iI y)), none, none, none] [] h Q := by
      intro d
      induction d with
      | zero =>
        intro y hy
        have : y = 8 := by omega
        subst this
        exact fin 0 0 (by rw [hp0]; rfl) (by rw [hp0]; rfl)
      | succ d ih =>
        intro y hy
        have hy8 : y < 8 := by omega
        have e1 : iI (y : Int) + 1 = iI ((y + 1 : Nat) : Int) := by rw [n_1, ad_n]
        refine bX0_weigh_17 hi ⟨fun z => ?_, fun _ => ⟨fun z => ?_, fun z => ?_⟩⟩
        · rw [n_8, le_n (by omega) (by omega)] at z
          omega
        · refine bX0_weigh_118 hi ?_
          rw [e1]
          exact ih (y + 1) (by omega)
        · rw [has_v R hR y hy8, c, bt_0] at z
          exact absurd rfl z
    exact loop 8 0 (by omega)
end EVE3
