section KINDSM
variable {G : GX} {h : mH} {Q : mO → mH → Prop}
theorem mX11_alike {p q : Int32} (hi : Iv h) (h8 : (gI h 83 30).toInt ≤ 8) (hr : ∀ i : Nat, (i : Int) < (gI h 83 30).toInt → MR h 97 (12 * i)) (kN : ¬ (pkM h p ∧ pkM h q) → Q (.inl (some (.int 0))) (pI (pI h 83 0 0) 83 0 1))
    (k : (pkM h p ∧ pkM h q) → Q (.inl (some (.int (iI (alV h 84 85 97 p.toInt.toNat q.toInt.toNat))))) (pI h 83 0 0)) : WM G jX11_alike [.ref 83, .int p, .int q] h Q := by
  have hi0 : Iv (pI h 83 0 0) := hi
  have h00 : gI (pI h 83 0 0) 83 0 = 0 := by rw [gI_pI]; rfl
  have e30 : gI (pI h 83 0 0) 83 30 = gI h 83 30 := by rw [gI_pI, if_neg (by omega)]
  have hS := Sm_ts h 0
  refine eX11_alike hi (mX11_isPortrait hi0 h00 (fun hp => ?_) (fun hp => bX11_alike_10 (h := pI (pI h 83 0 0) 83 0 1) hi ⟨fun _ => kN (fun z => hp (by rw [e30]; exact z.1)), fun z => absurd rfl z⟩))
  rw [e30] at hp
  refine bX11_alike_10 hi0 ⟨fun z => absurd z (by decide), fun _ => mX11_isPortrait hi0 h00 (fun hq => ?_) (fun hq => bX11_alike_18 (h := pI (pI h 83 0 0) 83 0 1) hi ⟨fun _ => kN (fun z => hq (by rw [e30]; exact z.2)), fun z => absurd rfl z⟩)⟩
  rw [e30] at hq
  refine bX11_alike_18 hi0 ⟨fun z => absurd z (by decide), fun _ => ?_⟩
  have k' := k ⟨hp, hq⟩
  obtain ⟨p1, p2⟩ := hp
  obtain ⟨q1, q2⟩ := hq
  rw [i32_nat p1, i32_nat q1]
  refine mX11_alikeOf hi0 (by omega) (by omega) (MR_cg hS rfl rfl rfl rfl (hr _ (by omega))) (MR_cg hS rfl rfl rfl rfl (hr _ (by omega))) (bX11_alike_27 hi0 ?_)
  rw [(alV_cg hS (a1 := 84) (a2 := 85) (a4 := 97) rfl rfl rfl _ _).1]
  exact k'
theorem mX11_kinds {n : Nat} {v : Int32} (hi : Iv h) (hn : gI h 83 30 = iI n) (h8 : n ≤ 8) (hr : ∀ i, i < n → MR h 97 (12 * i)) (kN : v ≠ -1 → ¬ pkM h v → Q (.inl (some (.int 0))) (pI (pI h 83 0 0) 83 0 1))
    (k : ∀ g, (v = -1 ∨ pkM h v) → Sm (fun o => o == 98) (pI h 83 0 0) g → Q (.inl (some (.int (iI (kdV (alT h 84 85 97) n v))))) g) : WM G jX11_kinds [.ref 83, .int v] h Q := by
  have hi0 : Iv (pI h 83 0 0) := hi
  have h00 : gI (pI h 83 0 0) 83 0 = 0 := by rw [gI_pI]; rfl
  have e30 : gI (pI h 83 0 0) 83 30 = gI h 83 30 := by rw [gI_pI, if_neg (by omega)]
  have hnn : (gI h 83 30).toInt = n := by rw [hn, iI_toInt ⟨by omega, by omega⟩]
  have hS0 := Sm_ts h 0
  have hal0 : alT (pI h 83 0 0) 84 85 97 = alT h 84 85 97 := funext fun a => funext fun b => (alV_cg hS0 (a1 := 84) (a2 := 85) (a4 := 97) rfl rfl rfl a b).2
  suffices go : (v = -1 ∨ pkM h v) → Vw G jX11_kinds 20 [some (.ref 83), some (.int v), none, none, none] [] (pI h 83 0 0) Q by
    refine eX11_kinds hi ⟨fun c => go (.inl c), fun c => mX11_isPortrait hi0 h00 (fun hp => ?_) (fun hp => bX11_kinds_15 (h := pI (pI h 83 0 0) 83 0 1) hi ⟨fun z => absurd rfl z, fun _ => kN c (fun z => hp (by rw [e30]; exact z))⟩)⟩
    rw [e30] at hp
    exact bX11_kinds_15 hi0 ⟨fun _ => go (.inr hp), fun z => absurd z (by decide)⟩
  intro hv
  refine bX11_kinds_20 hi0 ?_
  have k' := fun g => k g hv
  have hn0 : gI (pI h 83 0 0) 83 30 = iI n := by rw [e30]; exact hn
  have hr0 : ∀ i, i < n → MR (pI h 83 0 0) 97 (12 * i) := fun i hi => MR_cg hS0 rfl rfl rfl rfl (hr i hi)
  have hv8 : v ≠ -1 → 0 ≤ v.toInt ∧ v.toInt < n := fun c => by
    rcases hv with z | z
    · exact absurd z c
    · unfold pkM at z
      rw [hnn] at z
      exact z
  rw [← hal0] at k'
  clear hal0 hS0 hr hn hi e30 h00 kN k hv hnn
  generalize pI h 83 0 0 = h0 at *
  rw [n_0]
  have tr := fun i j k => alT_tr (h := h0) (a1 := 84) (a2 := 85) (a4 := 97) i j k
  have cg : ∀ {g : mH}, Sm (fun o => o == 98) h0 g → ∀ a b, alV g 84 85 97 a b = alV h0 84 85 97 a b := fun hS a b => (alV_cg hS (a1 := 84) (a2 := 85) (a4 := 97) rfl rfl rfl a b).1
  have outer : ∀ (d x : Nat) (g : mH), x + d = n → Sm (fun o => o == 98) h0 g → (∀ j, j < x → gI g 98 j = iI (lsN (alT h0 84 85 97) j : Nat)) → Vw G jX11_kinds 24 [some (.ref 83), some (.int v), some (.int (iI (cnt (fun i => lsN (alT h0 84 85 97) i == i) x : Nat))), some (.int (iI x)), none] [] g Q := by
    intro d
    induction d with
    | zero =>
      intro x g hx hS hd
      have : x = n := by omega
      subst this
      have k1 := k' g hS
      unfold kdV at k1
      refine bX11_kinds_24 (hS.iv hi0) ⟨fun _ => ⟨fun c => ?_, fun c => ?_⟩, fun z => absurd ?_ z⟩
      · rw [if_neg c] at k1
        obtain ⟨p1, p2⟩ := hv8 c
        have hvn : v.toInt.toNat < x := by omega
        rw [show v.toNatClampNeg = v.toInt.toNat from rfl, hd _ hvn]
        exact ⟨by rw [vp_in_iff]; omega, k1⟩
      · rw [if_pos c] at k1
        exact k1
      · rw [hS.gI (o := 83) rfl, hn0]
        exact Int32.le_refl _
    | succ d ih =>
      intro x g hx hS hd
      have gi := hS.iv hi0
      have hx8 : x < 8 := by omega
      have e1 : iI (x : Int) + 1 = iI ((x + 1 : Nat) : Int) := by rw [n_1, ad_n]
      refine bX11_kinds_24 gi ⟨fun z => ?_, fun _ => ?_⟩
      · rw [hS.gI (o := 83) rfl, hn0, le_n (by omega) (by omega)] at z
        omega
      · rw [ix_n (by omega), n_0]
        refine ⟨in_n (by omega) (by omega), ?_⟩
        have S1 : Sm (fun o => o == 98) h0 (pI g 98 x (iI x)) := hS.pI rfl _ _
        have d1 : ∀ j, j < x → gI (pI g 98 x (iI x)) 98 j = iI (lsN (alT h0 84 85 97) j : Nat) := fun j hj => by rw [gI_pI, if_neg (by omega)]; exact hd j hj
        have x1 : gI (pI g 98 x (iI x)) 98 x = iI x := by rw [gI_pI, if_pos ⟨rfl, rfl⟩]
        have lb := lsN_le (alT h0 84 85 97) x
        have cb := cnt_le (fun i => lsN (alT h0 84 85 97) i == i) x
        -- behind the search
        have fin : ∀ g', Sm (fun o => o == 98) h0 g' → (∀ j, j < x → gI g' 98 j = iI (lsN (alT h0 84 85 97) j : Nat)) → gI g' 98 x = iI (lsN (alT h0 84 85 97) x : Nat) → Vw G jX11_kinds 88 [some (.ref 83), some (.int v), some (.int (iI (cnt (fun i => lsN (alT h0 84 85 97) i == i) x : Nat))), some (.int (iI x)), none] [] g' Q := by
          intro g' hS' hd' hx'
          have nx := ih (x + 1) g' (by omega) hS' (fun j hj => by
            by_cases e : j = x
            · subst e; exact hx'
            · exact hd' j (by omega))
          have hcs : cnt (fun i => lsN (alT h0 84 85 97) i == i) (x + 1) = cnt (fun i => lsN (alT h0 84 85 97) i == i) x + (if lsN (alT h0 84 85 97) x == x then 1 else 0) := rfl
          refine bX11_kinds_88 (hS'.iv hi0) ?_
          rw [ix_n (by omega), hx', e1]
          refine ⟨in_n (by omega) (by omega), fun z => ?_, fun z => ?_⟩
          · rw [eq_n (by omega) (by omega)] at z
            rw [hcs, if_neg (by simpa using z)] at nx
            rw [n_0, ad_n]
            exact nx
          · rw [eq_n (by omega) (by omega)] at z
            rw [hcs, if_pos (by simpa using z)] at nx
            rw [n_1, ad_n]
            exact nx
        have done : ∀ (e j : Nat) (g' : mH), j + e = x → Sm (fun o => o == 98) h0 g' → (∀ j, j < x → gI g' 98 j = iI (lsN (alT h0 84 85 97) j : Nat)) → gI g' 98 x = iI (lsN (alT h0 84 85 97) x : Nat) → lsN (alT h0 84 85 97) x < x → Vw G jX11_kinds 42 [some (.ref 83), some (.int v), some (.int (iI (cnt (fun i => lsN (alT h0 84 85 97) i == i) x : Nat))), some (.int (iI x)), some (.int (iI j))] [] g' Q := by
          intro e j g' hj hS' hd' hx' hl
          refine bX11_kinds_42 (hS'.iv hi0) ⟨fun _ => fin g' hS' hd' hx', fun _ => ?_⟩
          rw [ix_n (by omega), hx']
          refine ⟨in_n (by omega) (by omega), fun _ => fin g' hS' hd' hx', fun z => ?_⟩
          rw [eq_n (by omega) (by omega)] at z
          omega
        have inner : ∀ (e j : Nat) (g' : mH), j + e = x → Sm (fun o => o == 98) h0 g' → (∀ j, j < x → gI g' 98 j = iI (lsN (alT h0 84 85 97) j : Nat)) → gI g' 98 x = iI x → fsV (fun j => alT h0 84 85 97 j x) j = -1 → Vw G jX11_kinds 42 [some (.ref 83), some (.int v), some (.int (iI (cnt (fun i => lsN (alT h0 84 85 97) i == i) x : Nat))), some (.int (iI x)), some (.int (iI j))] [] g' Q := by
          intro e
          induction e with
          | zero =>
            intro j g' hj hS' hd' hx' hz
            have : j = x := by omega
            subst this
            refine bX11_kinds_42 (hS'.iv hi0) ⟨fun _ => fin g' hS' hd' ?_, fun z => absurd (Int32.le_refl _) z⟩
            unfold lsN
            rw [if_pos hz]
            exact hx'
          | succ e ihj =>
            intro j g' hj hS' hd' hx' hz
            have e2 : iI (j : Int) + 1 = iI ((j + 1 : Nat) : Int) := by rw [n_1, ad_n]
            have gi' := hS'.iv hi0
            refine bX11_kinds_42 gi' ⟨fun z => ?_, fun _ => ?_⟩
            · rw [le_n (by omega) (by omega)] at z
              omega
            · rw [ix_n (by omega), hx']
              refine ⟨in_n (by omega) (by omega), fun z => absurd rfl z, fun _ => mX11_alikeOf gi' (by omega) hx8 (MR_cg hS' rfl rfl rfl rfl (hr0 j (by omega))) (MR_cg hS' rfl rfl rfl rfl (hr0 x (by omega))) ?_⟩
              rw [cg hS']
              have vb := alV_b h0 84 85 97 j x
              refine bX11_kinds_65 gi' ⟨fun z => ?_, fun z => ?_⟩
              · have hf : alT h0 84 85 97 j x = false := by
                  cases e : alT h0 84 85 97 j x with
                  | false => rfl
                  | true =>
                    rw [alV_1.mpr e] at z
                    exact absurd rfl z
                refine bX11_kinds_82 gi' ?_
                rw [e2]
                refine ihj (j + 1) g' (by omega) hS' hd' hx' ?_
                rw [fsV_0 (f := fun j => alT h0 84 85 97 j x) hf]
                exact hz
              · rw [show (1 : Int32) = iI 1 from by decide, iI_eq ⟨by omega, by omega⟩ ⟨by decide, by decide⟩, alV_1] at z
                have hs := fsV_1 (f := fun j => alT h0 84 85 97 j x) hz z
                have hst := fsV_st (f := fun j => alT h0 84 85 97 j x) (n := j + 1) (by rw [hs]; omega) (x - (j + 1))
                rw [show j + 1 + (x - (j + 1)) = x from by omega, hs] at hst
                have hlx : lsN (alT h0 84 85 97) x = j := by
                  unfold lsN
                  rw [hst, if_neg (by omega), Int.toNat_natCast]
                have hlj : lsN (alT h0 84 85 97) j = j := lsN_head tr z (fun i hi => fsV_m1 j hz i hi)
                rw [ix_n (by omega), ix_n (by omega), hd' j (by omega), hlj]
                refine ⟨in_n (by omega) (by omega), in_n (by omega) (by omega), bX11_kinds_82 (show Iv g' from gi') ?_⟩
                rw [e2]
                refine done (x - (j + 1)) (j + 1) _ (by omega) (hS'.pI rfl _ _) (fun i hi => ?_) ?_ (by omega)
                · rw [gI_pI, if_neg (by omega)]
                  exact hd' i hi
                · rw [gI_pI, if_pos ⟨rfl, rfl⟩, hlx]
        exact inner x 0 _ (by omega) S1 d1 x1 rfl
  exact outer n 0 h0 (by omega) Sm.rf (fun j hj => absurd hj (by omega))
end KINDSM
