section EVE5
variable {G : GX} {h : mH} {Q : mO → mH → Prop}
theorem bt_lt {S np y : Nat} (hS : S < 2 ^ np) (hb : bt S y = true) : y < np := by
  refine Classical.byContradiction (fun c => ?_)
  rw [bt_tb, Nat.testBit_lt_two_pow (Nat.lt_of_lt_of_le hS (Nat.pow_le_pow_right (by omega) (by omega)))] at hb
  cases hb
theorem pc_of : ∀ S, S < 256 → 0 < S → 0 < pc S := by decide +kernel
def evS (o : Nat) : Bool := o == 75 || (o == 76 || (o == 77 || (o == 78 || (o == 79))))
theorem mX0_make {S np : Nat} (hi : Iv h) (hn : gI h 33 1 = iI np) (h8 : np ≤ 8) (h4 : pnR h 7 0) (hP : ∀ i, i < np → pnR h 35 (12 * i)) (hS1 : 0 < S) (hSn : S < 2 ^ np)
    (k : ∀ g v e t, Sm evS h g → (∀ j, j ≠ 1 → j ≠ 2 → gI g 75 j = gI h 75 j) → gI g 75 1 = iI (pc S : Nat) → gI g 75 2 = iI (t : Nat) → (∀ i, i < pc S → gI g 76 i = iI (e i : Nat)) → fsb (dE h 7 35 np) S (pc S) v e t → Q (.inl (some (.int (iI (v : Nat))))) g) : WM G jX0_make [.ref 75, .int (iI S), .ref 33, .ref 7] h Q := by
  have hS : S < 256 := Nat.lt_of_lt_of_le hSn (Nat.le_trans (Nat.pow_le_pow_right (n := 2) (by omega) h8) (by decide))
  have hD := dE_b (a4 := 7) (aP := 35) (np := np) h4 hP
  have hS8 : ∀ y, y < 8 → bt S y = true → y < np := fun y _ hb => bt_lt hSn hb
  refine eX0_make hi rfl rfl (mX0_measure hi hn h8 h4 hP (fun g1 S1 ap1 => ?_))
  have i1 := S1.iv hi
  refine bX0_make_6 i1 ?_
  generalize hDD : dE h 7 35 np = D at *
  rw [n_0]
  have w7 : ∀ {a b : mH}, Sm (fun o => o == 78 || (o == 79)) a b → apR D np a → apR D np b := fun hs ha x y hy hx => by rw [hs.gI (o := 77) rfl]; exact ha x y hy hx
  have fin : ∀ g, Sm (fun o => o == 78 || (o == 79)) g1 g → (∀ R x, R ≤ S → x < 8 → subM R S → bt S x = true → bt R x = false → tbR D g R x) → Vw G jX0_make 74 [some (.ref 75), some (.int (iI S)), none, none, none, none] [] g Q := fun g hg ht => by
    have gi := hg.iv i1
    refine bX0_make_74 gi (mX0_choose gi hD h8 (w7 hg ap1) hS rfl (pc_of S hS hS1) hS8 (fun R x a b c d e => ht R x ?_ b c d e) (fun g2 v e t S2 f1 f2 f3 f4 f5 => ?_))
    · have := (sub_and (S := S) a).mpr c
      rw [← this]
      exact Nat.and_le_right
    · refine bX0_make_79 (S2.iv gi) (k g2 v e t ?_ ?_ f2 f3 f4 f5)
      · exact ((S1.wk (fun o ho => by unfold evS at ho; simp at ho ⊢; omega)).tr (hg.wk (fun o ho => by unfold evS at ho; simp at ho ⊢; omega))).tr (S2.wk (fun o ho => by unfold evS at ho; unfold chS; simp at ho ⊢; omega))
      · intro j j1 j2
        rw [f1 j j1 j2, hg.gI (o := 75) rfl, S1.gI (o := 75) rfl]
  have outer : ∀ (d R : Nat) (g : mH), R + d = S + 1 → Sm (fun o => o == 78 || (o == 79)) g1 g → (∀ R' x, R' < R → x < 8 → subM R' S → bt S x = true → bt R' x = false → tbR D g R' x) → Vw G jX0_make 9 [some (.ref 75), some (.int (iI S)), none, none, some (.int (iI R)), none] [] g Q := by
    intro d
    induction d with
    | zero =>
      intro R g hR hg ht
      refine bX0_make_9 (hg.iv i1) ⟨fun _ => fin g hg (fun R' x a => ht R' x (by omega)), fun z => absurd ?_ z⟩
      rw [lt_n (by omega) (by omega)]; omega
    | succ d ih =>
      intro R g hR hg ht
      have gi := hg.iv i1
      have hR2 : R < 256 := by omega
      have e1 : iI (R : Int) + 1 = iI ((R + 1 : Nat) : Int) := by rw [n_1, ad_n]
      refine bX0_make_9 gi ⟨fun z => ?_, fun _ => ⟨fun z => ?_, fun _ => ?_⟩⟩
      · rw [lt_n (by omega) (by omega)] at z
        omega
      · rw [show (256 : Int32) = iI ((256 : Nat) : Int) from by decide, le_n (by omega) (by omega)] at z
        omega
      · rw [n_0]
        have inner : ∀ (e x : Nat) (g : mH), x + e = 8 → Sm (fun o => o == 78 || (o == 79)) g1 g → (∀ R' x, R' < R → x < 8 → subM R' S → bt S x = true → bt R' x = false → tbR D g R' x) → (∀ x', x' < x → subM R S → bt S x' = true → bt R x' = false → tbR D g R x') → Vw G jX0_make 26 [some (.ref 75), some (.int (iI S)), none, none, some (.int (iI R)), some (.int (iI x))] [] g Q := by
          intro e
          induction e with
          | zero =>
            intro x g hx hg ht hr
            have : x = 8 := by omega
            subst this
            refine bX0_make_26 (hg.iv i1) ⟨fun _ => ?_, fun z => absurd (by decide) z⟩
            rw [e1]
            refine ih (R + 1) g (by omega) hg (fun R' x a b c d e => ?_)
            by_cases c1 : R' = R
            · subst c1; exact hr x b c d e
            · exact ht R' x (by omega) b c d e
          | succ e ihx =>
            intro x g hx hg ht hr
            have gi := hg.iv i1
            have hx8 : x < 8 := by omega
            have e2 : iI (x : Int) + 1 = iI ((x + 1 : Nat) : Int) := by rw [n_1, ad_n]
            have next : ∀ g', Sm (fun o => o == 78 || (o == 79)) g1 g' → (∀ R' x, R' < R → x < 8 → subM R' S → bt S x = true → bt R' x = false → tbR D g' R' x) → (∀ x', x' < x + 1 → subM R S → bt S x' = true → bt R x' = false → tbR D g' R x') → Vw G jX0_make 62 [some (.ref 75), some (.int (iI S)), none, none, some (.int (iI R)), some (.int (iI x))] [] g' Q := fun g' a b c => by
              refine bX0_make_62 (a.iv i1) ?_
              rw [e2]
              exact ihx (x + 1) g' (by omega) a b c
            have hxo : S ^^^ R < 256 := Nat.xor_lt_two_pow (n := 8) hS hR2
            refine bX0_make_26 gi ⟨fun z => ?_, fun _ => ?_⟩
            · rw [n_8, le_n (by omega) (by omega)] at z
              omega
            · rw [and_n, xor_n, has_v _ hxo x hx8, bt_xor]
              have al : R &&& S ≤ R := Nat.and_le_left
              refine ⟨fun z => next g hg ht (fun x' hx' hs a b => ?_), fun z => ⟨fun y => next g hg ht (fun x' hx' hs a b => ?_), fun y => ?_⟩⟩
              · rw [eq_n (by omega) (by omega), sub_and hR2] at z
                exact absurd hs z
              · by_cases c1 : x' = x
                · subst c1
                  rw [bL_0, a, b] at y
                  cases y
                · exact hr x' (by omega) hs a b
              · rw [eq_n (by omega) (by omega), sub_and hR2] at z
                have hbb : bt S x = true ∧ bt R x = false := by
                  cases h1 : bt S x <;> cases h2 : bt R x
                  · rw [h1, h2] at y; exact absurd rfl y
                  · have := z x hx8 h2
                    rw [h1] at this; cases this
                  · exact ⟨rfl, rfl⟩
                  · rw [h1, h2] at y; exact absurd rfl y
                refine mX0_weigh gi hD h8 (w7 hg ap1) hS8 hR2 (hS8 x hx8 hbb.1) z (fun y hy hb => ?_) (fun g' S' t' o' => ?_)
                · obtain ⟨r1, r2, r3⟩ := bt_rm R hR2 y hy hb
                  refine ht (rm R y) y r1 hy (fun u hu hbu => ?_) (z y hy hb) (by rw [r2 y hy]; simp)
                  rw [r2 u hu, Bool.and_eq_true] at hbu
                  exact z u hu hbu.1
                · refine next g' (hg.tr S') (fun R' x' a b c d e => ?_) (fun x' hx' hs a b => ?_)
                  · obtain ⟨t1, t2⟩ := ht R' x' a b c d e
                    obtain ⟨o1, o2⟩ := o' (8 * R' + x') (by omega)
                    exact ⟨o1.trans t1, o2.trans t2⟩
                  · by_cases c1 : x' = x
                    · subst c1; exact t'
                    · obtain ⟨t1, t2⟩ := hr x' (by omega) hs a b
                      obtain ⟨o1, o2⟩ := o' (8 * R + x') (by omega)
                      exact ⟨o1.trans t1, o2.trans t2⟩
        exact inner 8 0 g (by omega) hg ht (fun x' hx' => absurd hx' (by omega))
  exact outer (S + 1) 0 g1 (by omega) Sm.rf (fun R' x a => absurd a (by omega))
theorem shl_v : ∀ np, np < 9 → ((1 : Int32) <<< (iI ((np : Nat) : Int) &&& 31)) - 1 = iI ((2 ^ np - 1 : Nat) : Int) ∧ (1 : Int32) <<< (iI ((np : Nat) : Int) &&& 31) = iI ((2 ^ np : Nat) : Int) := by decide +kernel
theorem two_b : ∀ np, np < 9 → 1 ≤ 2 ^ np ∧ 2 ^ np ≤ 256 := by decide
def sok (np : Nat) (v : Int32) : Prop := 1 ≤ v.toInt ∧ v.toInt < ((2 ^ np : Nat) : Int)
theorem mX10_evening {np : Nat} {v : Int32} (hi : Iv h) (hn : gI h 33 1 = iI np) (h8 : np ≤ 8) (h4 : pnR h 7 0) (hP : ∀ i, i < np → pnR h 35 (12 * i)) (kI : ¬ sok np v → Th eI h Q)
    (k : ∀ g c e t, sok np v → Sm evS h g → (∀ j, j ≠ 1 → j ≠ 2 → gI g 75 j = gI h 75 j) → gI g 75 1 = iI (pc v.toInt.toNat : Nat) → gI g 75 2 = iI (t : Nat) → (∀ i, i < pc v.toInt.toNat → gI g 76 i = iI (e i : Nat)) → fsb (dE h 7 35 np) v.toInt.toNat (pc v.toInt.toNat) c e t → Q (.inl (some (.int (iI (c : Nat))))) g) : WM G jX10_evening [.ref 0, .int v] h Q := by
  obtain ⟨b1, b2⟩ := two_b np (by omega)
  refine eX10_evening hi ?_
  rw [hn, (shl_v np (by omega)).1, show (1 : Int32) = iI 1 from by decide]
  refine mX10_needWithin ⟨by decide, by decide⟩ ⟨by omega, by omega⟩ hi (fun v1 v2 => ?_) (fun z => kI (fun y => z ⟨y.1, by have := y.2; omega⟩))
  have hs : sok np v := ⟨v1, by omega⟩
  refine bX10_evening_16 hi ?_
  rw [i32_nat (show 0 ≤ v.toInt by omega)]
  exact mX0_make hi hn h8 h4 hP (by omega) (by omega) (fun g c e t f1 f2 f3 f4 f5 f6 => bX10_evening_35 (f1.iv hi) (k g c e t hs f1 f2 f3 f4 f5 f6))
end EVE5
