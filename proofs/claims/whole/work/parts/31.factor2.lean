section FACTOR2
variable {G : GX} {h : mH} {Q : mO → mH → Prop}
theorem dyV_cg {S : Nat → Bool} {h h' : mH} (hS : Sm S h h') {a : Nat} (ea : S a = false) : dyV h' a = dyV h a := by
  funext k
  unfold dyV
  rw [hS.gI ea]
theorem DyR_cg {S : Nat → Bool} {h h' : mH} (hS : Sm S h h') {a n : Nat} (ea : S a = false) (hd : DyR h a n) : DyR h' a n := ⟨hd.1, fun k hk => by rw [hS.gI ea]; exact hd.2 k hk⟩
/-- the parish's rows are right for what held has -/
def BsOk (h h' : mH) (n : Nat) : Prop := gI h' 80 0 = iI (bst (dyV h 37) n 999).1 ∧ gI h' 80 1 = iI (bst (dyV h 37) n 999).2
theorem mX5_findBest {n : Nat} {c : Int32} (hi : Iv h) (hn : gI h 33 5 = iI n) (hd : DyR h 37 n) (hv : gI h 80 2 = c → BsOk h h n) (k : ∀ h', Sm (fun o => o == 80) h h' → gI h' 80 2 = c → BsOk h h' n → Q (.inl none) h') : WM G jX5_findBest [.ref 80, .ref 33, .int c] h Q := by
  refine eX5_findBest (r1 := 33) hi rfl ⟨fun _ => ?_, fun e => k h Sm.rf e (hv e)⟩
  have loop : ∀ m i : Nat, i + m = 999 → ∀ h1, Sm (fun o => o == 80) h h1 → gI h1 80 2 = c → gI h1 80 0 = iI (bst (dyV h 37) n i).1 → gI h1 80 1 = iI (bst (dyV h 37) n i).2 → Vw G jX5_findBest 26 [some (.ref 80), some (.ref 33), none, some (.int (iI ((i + 1 : Nat) : Int))), none] [] h1 Q := by
    intro m
    induction m with
    | zero =>
      intro i him h1 hS1 e2 e0 e1
      have : i = 999 := by omega
      subst this
      exact bX5_findBest_26 (hS1.iv hi) rfl ⟨fun _ => k h1 hS1 e2 ⟨e0, e1⟩, fun z => absurd (by decide) z⟩
    | succ m ih =>
      intro i him h1 hS1 e2 e0 e1
      have hi1 := hS1.iv hi
      obtain ⟨b1, b2, b3, b4⟩ := bst_b (dyV h 37) n i
      have hdy : dyV h1 37 = dyV h 37 := dyV_cg hS1 rfl
      have e11 : iI ((i + 1 : Nat) : Int) + 1 = iI ((i + 1 + 1 : Nat) : Int) := by rw [iI_lit 1, iI_add]; congr 1
      refine bX5_findBest_26 hi1 rfl ⟨fun z => ?_, fun _ => ⟨fun z => ?_, fun z => ?_⟩⟩
      · rw [show (999 : Int32) = iI 999 from by decide, iI_lt ⟨by decide, by decide⟩ ⟨by omega, by omega⟩] at z
        omega
      · rw [e1, show (4 : Int32) = iI 4 from by decide, iI_le ⟨by decide, by decide⟩ ⟨by omega, by omega⟩] at z
        have hdn := bst_done (dyV h 37) n i z (m + 1)
        rw [him] at hdn
        exact k h1 hS1 e2 ⟨by rw [hdn]; exact e0, by rw [hdn]; exact e1⟩
      · rw [e1, show (4 : Int32) = iI 4 from by decide, iI_le ⟨by decide, by decide⟩ ⟨by omega, by omega⟩] at z
        refine mX5_fewestUnlike (F := (bst (dyV h 37) n i).2) (n := n) hi1 (by omega) (by rw [hS1.gI (o := 33) rfl]; exact hn) (DyR_cg hS1 rfl hd) e1 b3 (by omega) (fun r hr => ?_)
        rw [hdy] at hr
        obtain ⟨r1, r2, hr⟩ := hr
        have hbs : bst (dyV h 37) n (i + 1) = if (bst (dyV h 37) n i).2 < oV (allF (dyV h 37) (i + 1) n) then (((i + 1 : Nat) : Int), oV (allF (dyV h 37) (i + 1) n)) else bst (dyV h 37) n i := rfl
        refine bX5_findBest_47 hi1 rfl ⟨fun y => ?_, fun y => ?_⟩
        · rw [e1, iI_le ⟨by omega, by omega⟩ ⟨by omega, by omega⟩] at y
          refine bX5_findBest_69 hi1 rfl ?_
          rw [e11]
          have hs : bst (dyV h 37) n (i + 1) = bst (dyV h 37) n i := by
            rw [hbs]
            refine if_neg ?_
            rcases hr with ⟨v, _, lv, ev⟩ | ⟨hall, _⟩
            · omega
            · cases ha : allF (dyV h 37) (i + 1) n with
              | none => show ¬ _ < (-1 : Int); omega
              | some v => have := hall v ha; show ¬ _ < (v : Int); omega
          exact ih (i + 1) (by omega) h1 hS1 e2 (by rw [hs]; exact e0) (by rw [hs]; exact e1)
        · rw [e1, iI_le ⟨by omega, by omega⟩ ⟨by omega, by omega⟩] at y
          have hi2 : Iv (pI (pI h1 80 1 (iI r)) 80 0 (iI ((i + 1 : Nat) : Int))) := hi1
          refine bX5_findBest_69 hi2 rfl ?_
          rw [e11]
          have hs : bst (dyV h 37) n (i + 1) = (((i + 1 : Nat) : Int), r) := by
            rw [hbs]
            rcases hr with ⟨v, ev, lv, er⟩ | ⟨_, hl⟩
            · rw [ev, show oV (some v) = (v : Int) from rfl, if_pos lv, er]
            · omega
          refine ih (i + 1) (by omega) _ ((hS1.pI rfl _ _).pI rfl _ _) ?_ ?_ ?_
          · rw [gI_pI, if_neg (by omega), gI_pI, if_neg (by omega)]
            exact e2
          · rw [gI_pI, if_pos ⟨rfl, rfl⟩, hs]
          · rw [gI_pI, if_neg (by omega), gI_pI, if_pos ⟨rfl, rfl⟩, hs]
  refine loop 999 0 (by omega) _ (((Sm.rf.pI rfl _ _).pI rfl _ _).pI rfl _ _) ?_ ?_ ?_
  · rw [gI_pI, if_neg (by omega), gI_pI, if_neg (by omega), gI_pI, if_pos ⟨rfl, rfl⟩]
  · rw [gI_pI, if_neg (by omega), gI_pI, if_pos ⟨rfl, rfl⟩]
    exact m1_iI
  · rw [gI_pI, if_pos ⟨rfl, rfl⟩]
    exact m1_iI
def faV (h : mH) (a n : Nat) (w : Int32) : Int := if w = 0 then (bst (dyV h a) n 999).1 else (bst (dyV h a) n 999).2
theorem mX10_factor {n : Nat} {w : Int32} (hi : Iv h) (hn : gI h 33 5 = iI n) (hd : DyR h 37 n) (hv : gI h 80 2 = gI h 0 16 → BsOk h h n) (kN : ¬ (0 ≤ w.toInt ∧ w.toInt ≤ 1) → Th eN h Q)
    (k : ∀ h', (0 ≤ w.toInt ∧ w.toInt ≤ 1) → Sm (fun o => o == 80) h h' → gI h' 80 2 = gI h 0 16 → BsOk h h' n → Q (.inl (some (.int (iI (faV h 37 n w))))) h') : WM G jX10_factor [.ref 0, .int w] h Q := by
  refine eX10_factor hi ?_
  rw [show (1 : Int32) = iI 1 from by decide]
  refine mX10_needWhat ⟨by decide, by decide⟩ hi (fun w1 w2 => ?_) kN
  refine bX10_factor_5 hi (mX5_findBest hi hn hd hv (fun h1 hS1 e2 hb => ?_))
  have k' := k h1 ⟨w1, w2⟩ hS1 e2 hb
  unfold faV at k'
  refine bX10_factor_20 (hS1.iv hi) ⟨fun c => ?_, fun c => ?_⟩
  · rw [if_neg c] at k'
    rw [hb.2]; exact k'
  · rw [if_pos c] at k'
    rw [hb.1]; exact k'
/-- the model's -/
theorem mX11_unlike {a b : Nat} (hi : Iv h) (ha : a ≤ 1000000) (hb : b ≤ 1000000) (k : Q (.inl (some (.int (iI (ulG 4 a b : Nat))))) h) : WM G jX11_unlike [.int (iI a), .int (iI b)] h Q := by
  refine eX11_unlike hi ?_
  have loop : ∀ m i c a b : Nat, i + m = 4 → c ≤ i → a ≤ 1000000 → b ≤ 1000000 → Q (.inl (some (.int (iI (c + ulG m a b : Nat))))) h → Vw G jX11_unlike 10 [none, none, some (.int (iI c)), some (.int (iI a)), some (.int (iI b)), some (.int (iI i))] [] h Q := by
    intro m
    induction m with
    | zero =>
      intro i c a b him hc ha hb k
      have : i = 4 := by omega
      subst this
      exact bX11_unlike_10 hi ⟨fun _ => k, fun c => absurd (by decide) c⟩
    | succ m ih =>
      intro i c a b him hc ha hb k
      have e1 : iI (i : Int) + 1 = iI ((i + 1 : Nat) : Int) := by rw [iI_lit 1, iI_add]; congr 1
      have ec : iI (c : Int) + 1 = iI ((c + 1 : Nat) : Int) := by rw [iI_lit 1, iI_add]; congr 1
      refine bX11_unlike_10 hi ⟨fun z => ?_, fun _ => ?_⟩
      · rw [show (4 : Int32) = iI 4 from by decide, iI_le ⟨by decide, by decide⟩ ⟨by omega, by omega⟩] at z
        omega
      rw [tm_iI ha, tm_iI hb, ul_eq ha hb]
      unfold ulG at k
      refine ⟨fun z => ?_, fun z => ?_⟩
      · rw [td_iI ha, td_iI hb, e1, i32_0, iI_add, Int.add_zero]
        rw [if_pos z, Nat.zero_add] at k
        exact ih (i + 1) c (a / 10) (b / 10) (by omega) (by omega) (by omega) (by omega) k
      · rw [td_iI ha, td_iI hb, e1, ec]
        rw [if_neg z, ← Nat.add_assoc] at k
        exact ih (i + 1) (c + 1) (a / 10) (b / 10) (by omega) (by omega) (by omega) (by omega) k
  exact loop 4 0 0 a b (by omega) (by omega) ha hb (by rw [Nat.zero_add]; exact k)
theorem rowF_none (d : Nat → Nat) (f a : Nat) : ∀ b, rowF d f a b none = none
  | 0 => rfl
  | b + 1 => by unfold rowF; rw [rowF_none d f a b]; rfl
theorem mX11_fewest {f n : Nat} (hi : Iv h) (hf : f ≤ 999) (hn : gI h 83 36 = iI n) (hd : DyR h 101 n) (k : Q (.inl (some (.int (iI (oV (allF (dyV h 101) f n)))))) h) : WM G jX11_fewest [.ref 83, .int (iI f)] h Q := by
  have hn10 := hd.1
  refine eX11_fewest hi ?_
  have outer : ∀ m a : Nat, a + m = n → ∀ v : Nat, v ≤ 4 → allF (dyV h 101) f a = some v → Vw G jX11_fewest 4 [some (.ref 83), some (.int (iI f)), some (.int (iI v)), some (.int (iI a)), none, none] [] h Q := by
    intro m
    induction m with
    | zero =>
      intro a ham v hv hal
      have : a = n := by omega
      subst this
      rw [hal] at k
      refine bX11_fewest_4 hi ⟨fun _ => k, fun c => absurd ?_ c⟩
      rw [hn]; exact Int32.le_refl _
    | succ m ih =>
      intro a ham v hv hal
      refine bX11_fewest_4 hi ⟨fun c => ?_, fun _ => ?_⟩
      · rw [hn, iI_le ⟨by omega, by omega⟩ ⟨by omega, by omega⟩] at c
        omega
      · have inner : ∀ e b : Nat, b + e = a → ∀ v : Nat, v ≤ 4 → rowF (dyV h 101) f a b (allF (dyV h 101) f a) = some v → Vw G jX11_fewest 15 [some (.ref 83), some (.int (iI f)), some (.int (iI v)), some (.int (iI a)), some (.int (iI b)), none] [] h Q := by
          intro e
          induction e with
          | zero =>
            intro b hb v hv hr
            have : b = a := by omega
            subst this
            refine bX11_fewest_15 hi ⟨fun _ => ?_, fun c => absurd (Int32.le_refl _) c⟩
            rw [show iI (b : Int) + 1 = iI ((b + 1 : Nat) : Int) from by rw [iI_lit 1, iI_add]; congr 1]
            exact ih (b + 1) (by omega) v hv hr
          | succ e ihe =>
            intro b hb v hv hr
            obtain ⟨ia, la⟩ := hd.i (k := a) (by omega)
            obtain ⟨ib, lb⟩ := hd.i (k := b) (by omega)
            have hax : (iI (a : Int)).toNatClampNeg = a := by rw [iI_ix ⟨by omega, by omega⟩]; rfl
            have hbx : (iI (b : Int)).toNatClampNeg = b := by rw [iI_ix ⟨by omega, by omega⟩]; rfl
            have hav : vp_in (iI (a : Int)) 10 := iI_in (by omega) (by omega) (by omega)
            have hbv : vp_in (iI (b : Int)) 10 := iI_in (by omega) (by omega) (by omega)
            have hrs : rowF (dyV h 101) f a (b + 1) (allF (dyV h 101) f a) = stp (dyV h 101) f a b (some v) := by
              show stp _ _ _ _ (rowF _ _ _ _ _) = _
              rw [hr]
            have next : ∀ w : Nat, w ≤ 4 → stp (dyV h 101) f a b (some v) = some w → Vw G jX11_fewest 108 [some (.ref 83), some (.int (iI f)), some (.int (iI w)), some (.int (iI a)), some (.int (iI b)), none] [] h Q := by
              intro w hw hst
              refine bX11_fewest_108 hi ?_
              rw [show iI (b : Int) + 1 = iI ((b + 1 : Nat) : Int) from by rw [iI_lit 1, iI_add]; congr 1]
              exact ihe (b + 1) (by omega) w hw (by rw [hrs]; exact hst)
            refine bX11_fewest_15 hi ⟨fun c => ?_, fun _ => ⟨hav, hbv, ?_⟩⟩
            · rw [iI_le ⟨by omega, by omega⟩ ⟨by omega, by omega⟩] at c
              omega
            rw [hax, hbx, ia, ib]
            obtain ⟨x, hx⟩ : ∃ x, x = dyV h 101 a := ⟨_, rfl⟩
            obtain ⟨y, hy⟩ : ∃ y, y = dyV h 101 b := ⟨_, rfl⟩
            rw [← hx] at la ia ⊢
            rw [← hy] at lb ib ⊢
            have hst : stp (dyV h 101) f a b (some v) = (if x = y then some v else if ulG 4 (x * f) (y * f) = 0 then none else if ((x : Int) - y).natAbs ≤ 7 ∧ ulG 4 (x * f) (y * f) < v then some (ulG 4 (x * f) (y * f)) else some v) := by
              rw [hx, hy]; rfl
            have hxf : x * f ≤ 364 * 999 := Nat.mul_le_mul la hf
            have hyf : y * f ≤ 364 * 999 := Nat.mul_le_mul lb hf
            have hxy : iI (x : Int) = iI (y : Int) ↔ x = y := by rw [iI_eq ⟨by omega, by omega⟩ ⟨by omega, by omega⟩]; omega
            have hul := ulG_le 4 (x * f) (y * f)
            rw [hxy]
            refine ⟨fun c => ⟨hav, hbv, ?_⟩, fun c => next v hv (by rw [hst, if_pos c])⟩
            rw [iI_mul, iI_mul, ← Int.natCast_mul, ← Int.natCast_mul, tm4_iI (by omega), tm4_iI (by omega)]
            refine mX11_unlike hi (by omega) (by omega) ?_
            rw [ulG_mod]
            have u0 : iI (ulG 4 (x * f) (y * f) : Nat) = 0 ↔ ulG 4 (x * f) (y * f) = 0 := by rw [i32_0, iI_eq ⟨by omega, by omega⟩ ⟨by decide, by decide⟩]; omega
            refine bX11_fewest_68 hi ⟨fun cu => ⟨hav, hbv, ?_⟩, fun cu => ?_⟩
            · rw [u0] at cu
              rw [hax, hbx, ia, ib, iI_sub, size_iI (by omega) (by omega)]
              refine ⟨fun c7 => next v hv ?_, fun c7 => ⟨fun cl => next v hv ?_, fun cl => next _ (by omega) ?_⟩⟩
              · rw [show (7 : Int32) = iI 7 from by decide, iI_lt ⟨by decide, by decide⟩ ⟨by omega, by omega⟩] at c7
                rw [hst, if_neg c, if_neg cu, if_neg (by omega)]
              · rw [iI_le ⟨by omega, by omega⟩ ⟨by omega, by omega⟩] at cl
                rw [hst, if_neg c, if_neg cu, if_neg (by omega)]
              · rw [show (7 : Int32) = iI 7 from by decide, iI_lt ⟨by decide, by decide⟩ ⟨by omega, by omega⟩] at c7
                rw [iI_le ⟨by omega, by omega⟩ ⟨by omega, by omega⟩] at cl
                rw [hst, if_neg c, if_neg cu, if_pos (by omega)]
            · rw [u0] at cu
              have hnone : rowF (dyV h 101) f a (b + 1) (allF (dyV h 101) f a) = none := by
                rw [hrs, hst, if_neg c, if_pos cu]
              have hno : allF (dyV h 101) f n = none := by
                cases hw : allF (dyV h 101) f n with
                | none => rfl
                | some w =>
                  have h1 := rowF_le (dyV h 101) f a (allF (dyV h 101) f a) e (b + 1)
                  rw [show b + 1 + e = a from by omega] at h1
                  have h2 := allF_le (dyV h 101) f m (a + 1)
                  rw [show a + 1 + m = n from by omega] at h2
                  obtain ⟨x1, ex1, _⟩ := h2 w hw
                  obtain ⟨x2, ex2, _⟩ := h1 x1 ex1
                  rw [hnone] at ex2
                  cases ex2
              rw [hno] at k
              exact k
        exact inner a 0 (by omega) v hv hal
  exact outer n 0 (by omega) 4 (by omega) rfl
theorem mX11_factor {n : Nat} {w : Int32} (hi : Iv h) (hn : gI h 83 36 = iI n) (hd : DyR h 101 n) (kN : ¬ (0 ≤ w.toInt ∧ w.toInt ≤ 1) → Q (.inl (some (.int 0))) (pI (pI h 83 0 0) 83 0 1))
    (k : (0 ≤ w.toInt ∧ w.toInt ≤ 1) → Q (.inl (some (.int (iI (faV h 101 n w))))) (pI h 83 0 0)) : WM G jX11_factor [.ref 83, .int w] h Q := by
  have hi0 : Iv (pI h 83 0 0) := hi
  have h00 : gI (pI h 83 0 0) 83 0 = 0 := by rw [gI_pI]; rfl
  have hn0 : gI (pI h 83 0 0) 83 36 = iI n := by rw [gI_pI, if_neg (by omega)]; exact hn
  have hd0 : DyR (pI h 83 0 0) 101 n := DyR_cg (Sm_ts h 0) rfl hd
  have hdy : dyV (pI h 83 0 0) 101 = dyV h 101 := dyV_cg (Sm_ts h 0) rfl
  have e0 : w = 0 ↔ w.toInt = 0 := by rw [i32_0, i32_eq ⟨by decide, by decide⟩]
  have e1 : w = 1 ↔ w.toInt = 1 := by rw [show (1 : Int32) = iI 1 from by decide, i32_eq ⟨by decide, by decide⟩]
  suffices go : (0 ≤ w.toInt ∧ w.toInt ≤ 1) → Vw G jX11_factor 24 [some (.ref 83), some (.int w), none, none, none, none] [.int 1] (pI h 83 0 0) Q by
    refine eX11_factor hi ⟨fun c => mX11_right1 hi0 h00 (by decide) (go ?_), fun c => ⟨fun c1 => mX11_right0 hi0 h00 (by decide) (bX11_factor_24 (h := pI (pI h 83 0 0) 83 0 1) hi ⟨fun z => absurd rfl z, fun _ => kN ?_⟩), fun c1 => mX11_right1 hi0 h00 (by decide) (go ?_)⟩⟩
    · rw [e0] at c; omega
    · rw [e0] at c; rw [e1] at c1; omega
    · rw [e1] at c1; omega
  intro hw
  have k' := k hw
  unfold faV at k'
  refine bX11_factor_24 hi0 ⟨fun _ => ?_, fun z => absurd z (by decide)⟩
  have loop : ∀ m i : Nat, i + m = 999 → Vw G jX11_factor 36 [some (.ref 83), some (.int w), some (.int (iI (bst (dyV h 101) n i).1)), some (.int (iI (bst (dyV h 101) n i).2)), some (.int (iI ((i + 1 : Nat) : Int))), none] [] (pI h 83 0 0) Q := by
    intro m
    induction m with
    | zero =>
      intro i him
      have : i = 999 := by omega
      subst this
      refine bX11_factor_36 hi0 ⟨fun _ => ⟨fun c => ?_, fun c => ?_⟩, fun z => absurd (by decide) z⟩
      · rw [if_neg c] at k'; exact k'
      · rw [if_pos c] at k'; exact k'
    | succ m ih =>
      intro i him
      obtain ⟨b1, b2, b3, b4⟩ := bst_b (dyV h 101) n i
      have hob := oV_b (dyV h 101) (i + 1) n
      have e11 : iI ((i + 1 : Nat) : Int) + 1 = iI ((i + 1 + 1 : Nat) : Int) := by rw [iI_lit 1, iI_add]; congr 1
      have hbs : bst (dyV h 101) n (i + 1) = if (bst (dyV h 101) n i).2 < oV (allF (dyV h 101) (i + 1) n) then (((i + 1 : Nat) : Int), oV (allF (dyV h 101) (i + 1) n)) else bst (dyV h 101) n i := rfl
      refine bX11_factor_36 hi0 ⟨fun z => ?_, fun _ => mX11_fewest (n := n) hi0 (by omega) hn0 hd0 ?_⟩
      · rw [show (999 : Int32) = iI 999 from by decide, iI_lt ⟨by decide, by decide⟩ ⟨by omega, by omega⟩] at z
        omega
      rw [hdy]
      have nx := ih (i + 1) (by omega)
      refine bX11_factor_50 hi0 ⟨fun z => ?_, fun z => ?_⟩
      · rw [iI_lt ⟨by omega, by omega⟩ ⟨by omega, by omega⟩] at z
        rw [hbs, if_pos z] at nx
        refine bX11_factor_67 hi0 ?_
        rw [e11]
        exact nx
      · rw [iI_lt ⟨by omega, by omega⟩ ⟨by omega, by omega⟩] at z
        rw [hbs, if_neg z] at nx
        refine bX11_factor_67 hi0 ?_
        rw [e11]
        exact nx
  exact loop 999 0 (by omega)
end FACTOR2
