section EVEM4
variable {G : GX} {h : mH} {Q : mO → mH → Prop}
theorem bit_v : ∀ S, S < 256 → ∀ p, p < 8 → (iI ((S : Nat) : Int) >>> (iI ((p : Nat) : Int) &&& 31)) &&& (1 : Int32) = bL (bt S p) := by decide +kernel
theorem cnt_tail {f : Nat → Bool} {a : Nat} : ∀ e, (∀ y, a ≤ y → f y = false) → cnt f (a + e) = cnt f a
  | 0, _ => rfl
  | e + 1, hf => by
    show cnt f (a + e + 1) = _
    conv => lhs; unfold cnt
    rw [cnt_tail e hf, hf (a + e) (by omega)]
    rfl
/-- what the search of an evening has found -/
def bsI (D : Nat → Nat → Nat) (S n : Nat) (P : (Nat → Nat) → Nat → Prop) (g : mH) (v3 : Int32) : Prop := (v3 = iI (-1) ∧ ∀ m b, pm S n m → b < n → ¬ P m b) ∨ ∃ v e t, v3 = iI ((v : Nat) : Int) ∧ v ≤ 1000 ∧ fsP D S n P v e t ∧ gI g 83 41 = iI ((t : Nat) : Int) ∧ ∀ i, i < n → gI g 103 i = iI ((e i : Nat) : Int)
def emS (o k : Nat) : Bool := (o == 83 && (k == 0 || (k == 40 || (k == 41)))) || (o == 102 || (o == 103))
theorem mX11_evening {np : Nat} {v : Int32} (hi : Iv h) (hn : gI h 83 30 = iI np) (h8 : np ≤ 8) (h4 : pnR h 87 0) (hP : ∀ i, i < np → pnR h 97 (12 * i)) (kI : ¬ sok np v → Q (.inl (some (.int 0))) (pI (pI h 83 0 0) 83 0 1))
    (k : ∀ g c e t, sok np v → Ce emS h g → gI g 83 0 = 0 → gI g 83 40 = iI (pc v.toInt.toNat : Nat) → gI g 83 41 = iI ((t : Nat) : Int) → (∀ i, i < pc v.toInt.toNat → gI g 103 i = iI ((e i : Nat) : Int)) → fsb (dE h 87 97 np) v.toInt.toNat (pc v.toInt.toNat) c e t → Q (.inl (some (.int (iI ((c : Nat) : Int))))) g) : WM G jX11_evening [.ref 83, .int v] h Q := by
  have hi0 : Iv (pI h 83 0 0) := hi
  have h00 : gI (pI h 83 0 0) 83 0 = 0 := by rw [gI_pI]; rfl
  have e30 : gI (pI h 83 0 0) 83 30 = iI np := by rw [gI_pI, if_neg (by omega)]; exact hn
  obtain ⟨b1, b2⟩ := two_b np (by omega)
  have no : ¬ sok np v → WM G jX11_right [.ref 83, .int 0, .int 1] (pI h 83 0 0) (Aft G jX11_evening 26 [some (.ref 83), some (.int v), none, none, none, none, none] [] Q) := fun z => mX11_right0 hi0 h00 (by decide) (bX11_evening_29 (h := pI (pI h 83 0 0) 83 0 1) hi ⟨fun z => absurd rfl z, fun _ => kI z⟩)
  refine eX11_evening hi ?_
  rw [e30, (shl_v np (by omega)).2]
  have l0 : v ≤ 0 ↔ v.toInt ≤ 0 := by rw [i32_0, i32_le ⟨by decide, by decide⟩]
  have l1 : iI ((2 ^ np : Nat) : Int) ≤ v ↔ ((2 ^ np : Nat) : Int) ≤ v.toInt := i32_ge ⟨by omega, by omega⟩
  refine ⟨fun z => no (fun y => ?_), fun z1 => ⟨fun z => no (fun y => ?_), fun z2 => mX11_right1 hi0 h00 (by decide) (bX11_evening_29 hi0 ⟨fun _ => ?_, fun z => absurd z (by decide)⟩)⟩⟩
  · rw [l0] at z
    have := y.1; omega
  · rw [l1] at z
    have := y.2; omega
  · rw [l0] at z1
    rw [l1] at z2
    have hs : sok np v := ⟨by omega, by omega⟩
    have k' := fun g c e t => k g c e t hs
    have ev := i32_nat (show 0 ≤ v.toInt by omega)
    have hSn : v.toInt.toNat < 2 ^ np := by omega
    have hS0 : 0 < v.toInt.toNat := by omega
    clear kI k no hs z1 z2 l0 l1
    generalize v.toInt.toNat = S at *
    subst ev
    have hS : S < 256 := by omega
    have hD := dE_b (a4 := 87) (aP := 97) (np := np) h4 hP
    -- the first heap
    have C0 : Ce emS h (pI h 83 0 0) := Ce.rf.pI rfl _
    have rowP : ∀ {g : mH}, Ce emS h g → ∀ a, a ≠ 83 → a ≠ 102 → a ≠ 103 → ∀ j, gI g a j = gI h a j := fun hC a a1 a2 a3 j => hC.2.2 a j (by unfold emS; simp; omega)
    have d4g : ∀ {g : mH}, Ce emS h g → pnR g 87 0 ∧ (∀ i, i < np → pnR g 97 (12 * i)) ∧ dE g 87 97 np = dE h 87 97 np := fun hC => by
      refine ⟨fun p hp => by rw [rowP hC 87 (by omega) (by omega) (by omega)]; exact h4 p hp, fun i hi p hp => by rw [rowP hC 97 (by omega) (by omega) (by omega)]; exact hP i hi p hp, ?_⟩
      have r1 : ∀ f, rwI _ 97 f = rwI h 97 f := fun f => funext fun p => by unfold rwI; rw [rowP hC 97 (by omega) (by omega) (by omega)]
      have r2 : rwI _ 87 0 = rwI h 87 0 := funext fun p => by unfold rwI; rw [rowP hC 87 (by omega) (by omega) (by omega)]
      funext x y
      unfold dE
      rw [r2, r1, r1]
    generalize hDD : dE h 87 97 np = D at *
    have g30 : ∀ {g : mH}, Ce emS h g → gI g 83 30 = iI np := fun hC => by rw [hC.2.2 83 30 rfl]; exact hn
    generalize hh0 : pI h 83 0 0 = h0 at *
    clear hh0 h4 hP
    -- the loop over the orders
    have main : ∀ (N : Nat) (f : Nat → Nat) (g : mH) (v3 : Int32), 8 ^ pc S ≤ cdN f (pc S) + N → pm S (pc S) f → Ce emS h g → gI g 83 0 = 0 → (∀ i, i < pc S → gI g 102 i = iI ((f i : Nat) : Int)) → bsI D S (pc S) (ahd (pc S) f 0) g v3 → Vw G jX11_evening 78 [some (.ref 83), none, some (.int (iI (pc S : Nat))), some (.int v3), some (.int 1), none, none] [] g Q := by
      intro N
      induction N with
      | zero =>
        intro f g v3 hN hf
        have := cdN_b (f := f) (pc S) (fun i hi => (hf.1 i hi).1)
        omega
      | succ N ih =>
        intro f g v3 hN hf hC g0 hr hb
        have n8 := pc_8 S
        have n0 := pc_of S hS hS0
        refine bX11_evening_78 (hC.iv hi) ⟨fun z => absurd z (by decide), fun _ => ?_⟩
        rw [n_0]
        have inner : ∀ (d b : Nat) (g : mH) (v3 : Int32), b + d = pc S → Ce emS h g → gI g 83 0 = 0 → (∀ i, i < pc S → gI g 102 i = iI ((f i : Nat) : Int)) → bsI D S (pc S) (ahd (pc S) f b) g v3 → Vw G jX11_evening 86 [some (.ref 83), none, some (.int (iI (pc S : Nat))), some (.int v3), none, some (.int (iI b)), none] [] g Q := by
          intro d
          induction d with
          | zero =>
            intro b g v3 hbn hC g0 hr hb
            have hbe : b = pc S := by omega
            subst hbe
            have gi := hC.iv hi
            refine bX11_evening_86 gi ⟨fun _ => mX11_countsUp gi n8 n0 hf hr (fun hd => ?_) (fun g' f' S' hf' hr' hl hnx => ?_), fun z => absurd (Int32.le_refl _) z⟩
            · refine bX11_evening_147 gi (bX11_evening_78 gi ⟨fun _ => ?_, fun z => absurd rfl z⟩)
              rcases hb with ⟨_, hb⟩ | ⟨c, e, t, hv, hv2, hfs, ht, he⟩
              · exact absurd (.inr ⟨fun _ _ => rfl, n0⟩) (hb f 0 hf n0)
              · subst hv
                refine k' _ c e t (hC.pI rfl _) ?_ ?_ ?_ (fun i hi => ?_) (fsP_end (fun m hm => nx_end hf hd hm) hfs)
                · rw [gI_pI, if_neg (by omega)]; exact g0
                · rw [gI_pI, if_pos ⟨rfl, rfl⟩]
                · rw [gI_pI, if_neg (by omega)]; exact ht
                · rw [gI_pI, if_neg (by omega)]; exact he i hi
            · have C' : Ce emS h g' := hC.tr (Ce.sm S' (fun o k ho => by unfold emS at ho; simp at ho ⊢; omega))
              refine bX11_evening_147 (C'.iv hi) (ih f' g' v3 ?_ hf' C' (by rw [S'.gI (o := 83) rfl]; exact g0) hr' ?_)
              · have := cdN_llt (fun i hi => (hf.1 i hi).1) hl
                omega
              · rcases hb with ⟨_, hb⟩ | ⟨c, e, t, hv, hv2, hfs, ht, he⟩
                · exact absurd (.inr ⟨fun _ _ => rfl, n0⟩) (hb f 0 hf n0)
                · exact .inr ⟨c, e, t, hv, hv2, fsP_nx hl hnx hfs, by rw [S'.gI (o := 83) rfl]; exact ht, fun i hi => by rw [S'.gI (o := 103) rfl]; exact he i hi⟩
          | succ d ihd =>
            intro b g v3 hbn hC g0 hr hb
            have gi := hC.iv hi
            obtain ⟨q1, q2, q3⟩ := d4g hC
            have e1 : iI (b : Int) + 1 = iI ((b + 1 : Nat) : Int) := by rw [n_1, ad_n]
            have cb := Cp_b hD f b (pc S)
            have hfr : ∀ i, i < pc S → gI g 102 i = iI (f i : Nat) ∧ f i < np := fun i hi => ⟨hr i hi, bt_lt hSn (hf.1 i hi).2⟩
            refine bX11_evening_86 gi ⟨fun z => ?_, fun _ => mX11_allMoved gi h8 n8 q1 q2 hfr (by omega) ?_⟩
            · rw [le_n (by omega) (by omega)] at z
              omega
            · rw [q3]
              have take : (∀ m b', pm S (pc S) m → b' < pc S → ahd (pc S) f b m b' → Cp D f b (pc S) < Cp D m b' (pc S)) → Vw G jX11_evening 115 [some (.ref 83), none, some (.int (iI (pc S : Nat))), none, none, some (.int (iI b)), some (.int (iI (Cp D f b (pc S) : Nat)))] [] g Q := fun hlo => by
                refine bX11_evening_115 gi (mX11_copies (h := pI g 83 41 (iI b)) gi (a := 102) (b := 103) (n := 8) rfl rfl (by omega) (by omega) (fun g2 S2 c2 => ?_))
                have C2 : Ce emS h g2 := (hC.pI (o := 83) (k := 41) rfl (iI b)).tr (Ce.sm S2 (fun o k ho => by unfold emS at ho; simp at ho ⊢; omega))
                refine bX11_evening_136 (C2.iv hi) ?_
                rw [e1]
                refine ihd (b + 1) g2 _ (by omega) C2 ?_ (fun i hi => ?_) (.inr ⟨Cp D f b (pc S), f, b, rfl, by omega, fsP_new hf (by omega) hlo, ?_, fun i hi => ?_⟩)
                · rw [S2.gI (o := 83) rfl, gI_pI, if_neg (by omega)]; exact g0
                · rw [S2.gI (o := 102) rfl, gI_pI, if_neg (by omega)]; exact hr i hi
                · rw [S2.gI (o := 83) rfl, gI_pI, if_pos ⟨rfl, rfl⟩]
                · rw [c2 i (by omega), gI_pI, if_neg (by omega)]; exact hr i hi
              rcases hb with ⟨hv, hb⟩ | ⟨c, e, t, hv, hv2, hfs, ht, he⟩
              · refine bX11_evening_99 gi ⟨fun _ => take (fun m b' hm hb' ha => absurd ha (hb m b' hm hb')), fun z => absurd (by rw [hv, m1_iI]) z⟩
              · subst hv
                refine bX11_evening_99 gi ⟨fun z => ?_, fun _ => ⟨fun z => take (fun m b' hm hb' ha => ?_), fun z => ?_⟩⟩
                · rw [m1_iI, iI_eq ⟨by omega, by omega⟩ ⟨by decide, by decide⟩] at z
                  omega
                · rw [lt_n (by omega) (by omega)] at z
                  have := hfs.2.2.2.2 m b' hm hb' ha
                  omega
                · rw [lt_n (by omega) (by omega)] at z
                  refine bX11_evening_136 gi ?_
                  rw [e1]
                  exact ihd (b + 1) g _ (by omega) hC g0 hr (.inr ⟨c, e, t, rfl, hv2, fsP_old hfs (by omega), ht, he⟩)
        exact inner (pc S) 0 g v3 (by omega) hC g0 hr hb
    -- the order at first
    rw [n_0]
    have first : ∀ (d p : Nat) (g : mH) (f : Nat → Nat), p + d = np → Ce emS h g → gI g 83 0 = 0 → (∀ i, i < cnt (bt S) p → gI g 102 i = iI ((f i : Nat) : Int)) → (∀ i, i < cnt (bt S) p → f i < p ∧ bt S (f i) = true) → (∀ a b, a < b → b < cnt (bt S) p → f a < f b) → (∀ x, x < p → bt S x = true → ∃ i, i < cnt (bt S) p ∧ f i = x) →
        Vw G jX11_evening 38 [some (.ref 83), some (.int (iI S)), some (.int (iI (cnt (bt S) p : Nat))), some (.int (iI p)), none, none, none] [] g Q := by
      intro d
      induction d with
      | zero =>
        intro p g f hp hC g0 hr hb ha hx
        have hpe : p = np := by omega
        subst hpe
        have hcn : cnt (bt S) p = pc S := by
          have := cnt_tail (f := bt S) (a := p) (8 - p) (fun y hy => by
            cases hh : bt S y with
            | false => rfl
            | true => exact absurd (bt_lt hSn hh) (by omega))
          rw [show p + (8 - p) = 8 from by omega] at this
          exact this.symm
        rw [hcn] at hr hb ha hx ⊢
        have hf : pm S (pc S) f := ⟨fun i hi => ⟨by have := (hb i hi).1; omega, (hb i hi).2⟩, fun i j hi hj e => by
          rcases Nat.lt_trichotomy i j with l | l | l
          · have := ha i j l hj; omega
          · exact l
          · have := ha j i l hi; omega, fun x _ hbx => hx x (bt_lt hSn hbx) hbx⟩
        refine bX11_evening_38 (hC.iv hi) ⟨fun _ => ?_, fun z => absurd (by rw [g30 hC]; exact Int32.le_refl _) z⟩
        refine main (8 ^ pc S) f g _ (by omega) hf hC g0 hr (.inl ⟨m1_iI, fun m b hm hb' hh => ?_⟩)
        rcases hh with ⟨i, i1, i2, i3⟩ | ⟨_, hh⟩
        · exact asc_no (c := 0) hf hm (fun a b _ h1 h2 => ha a b h1 h2) (Nat.zero_le _) i1 (fun j hj => (i3 j hj).symm) i2
        · omega
      | succ d ih =>
        intro p g f hp hC g0 hr hb ha hx
        have gi := hC.iv hi
        have e1 : iI (p : Int) + 1 = iI ((p + 1 : Nat) : Int) := by rw [n_1, ad_n]
        have cl := cnt_le (bt S) p
        have hcs : cnt (bt S) (p + 1) = cnt (bt S) p + (if bt S p then 1 else 0) := rfl
        refine bX11_evening_38 gi ⟨fun z => ?_, fun _ => ?_⟩
        · rw [g30 hC, le_n (by omega) (by omega)] at z
          omega
        · rw [bit_v S hS p (by omega), ix_n (by omega)]
          refine ⟨fun z => ⟨in_n (by omega) (by omega), ?_⟩, fun z => ?_⟩
          · have hbt : bt S p = true := by
              cases hh : bt S p with
              | true => rfl
              | false => exact absurd (bL_0.mpr hh) z
            rw [if_pos hbt] at hcs
            refine bX11_evening_67 (h := pI g 102 (cnt (bt S) p) (iI p)) gi ?_
            rw [e1, n_1, ad_n, ← hcs]
            refine ih (p + 1) _ (fun i => if i = cnt (bt S) p then p else f i) (by omega) (hC.pI rfl _) ?_ (fun i hi => ?_) (fun i hi => ?_) (fun a b h1 h2 => ?_) (fun x hx1 hbx => ?_)
            · rw [gI_pI, if_neg (by omega)]; exact g0
            · rw [gI_pI]
              by_cases c : i = cnt (bt S) p
              · rw [if_pos ⟨rfl, c⟩, if_pos c]
              · rw [if_neg (fun w => c w.2), if_neg c]
                exact hr i (by omega)
            · show (if i = cnt (bt S) p then p else f i) < p + 1 ∧ bt S (if i = cnt (bt S) p then p else f i) = true
              by_cases c : i = cnt (bt S) p
              · rw [if_pos c]; exact ⟨by omega, hbt⟩
              · rw [if_neg c]
                have := hb i (by omega)
                exact ⟨by omega, this.2⟩
            · show (if a = cnt (bt S) p then p else f a) < (if b = cnt (bt S) p then p else f b)
              rw [if_neg (by omega)]
              by_cases c : b = cnt (bt S) p
              · rw [if_pos c]; exact (hb a (by omega)).1
              · rw [if_neg c]; exact ha a b h1 (by omega)
            · by_cases c : x = p
              · exact ⟨cnt (bt S) p, by omega, by rw [if_pos rfl]; exact c.symm⟩
              · obtain ⟨i, i1, i2⟩ := hx x (by omega) hbx
                exact ⟨i, by omega, by rw [if_neg (by omega)]; exact i2⟩
          · rw [bL_0] at z
            rw [z] at hcs
            have hcs' : cnt (bt S) (p + 1) = cnt (bt S) p := hcs
            refine bX11_evening_67 gi ?_
            rw [e1]
            have := ih (p + 1) g f (by omega) hC g0 (by rw [hcs']; exact hr) (by rw [hcs']; exact fun i hi => ⟨by have := (hb i hi).1; omega, (hb i hi).2⟩) (by rw [hcs']; exact ha) (by
              rw [hcs']
              intro x hx1 hbx
              by_cases c : x = p
              · subst c; rw [z] at hbx; cases hbx
              · exact hx x (by omega) hbx)
            rw [hcs'] at this
            exact this
    exact first np 0 h0 (fun _ => 0) (by omega) C0 h00 (fun i hi => absurd hi (Nat.not_lt_zero i)) (fun i hi => absurd hi (Nat.not_lt_zero i)) (fun a b _ h2 => absurd h2 (Nat.not_lt_zero b)) (fun x hx => absurd hx (Nat.not_lt_zero x))
end EVEM4
