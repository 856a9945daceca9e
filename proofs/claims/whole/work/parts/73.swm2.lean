section SWM2
variable {G : GX} {h : mH} {Q : mO → mH → Prop}
theorem bnd_l {α β : Type} {r : (Nat × Nat) ⊕ α} {k : α → (Nat × Nat) ⊕ β} {e : Nat × Nat} (h : bnd r k = .inl e) : r = .inl e ∨ ∃ a, r = .inr a ∧ k a = .inl e := by
  cases r with
  | inl x =>
    have h' : (Sum.inl x : (Nat × Nat) ⊕ β) = .inl e := h
    cases h'
    exact .inl rfl
  | inr a => exact .inr ⟨a, rfl, h⟩
theorem rNu_l {z : Nat → Int} {n f w p : Nat} {lo hi : Int} (h : rNu z n f lo hi = .inl (w, p)) : w ≠ 0 ∧ w ≤ 9 := by
  unfold rNu at h
  split at h
  · cases h
  · rename_i c
    cases h
    have := nuW_b (z := z) (n := n) (f := f) (lo := lo) (hi := hi)
    omega
theorem rSn_l {z : Nat → Int} {n f w p : Nat} {hi : Int} (h : rSn z n f hi = .inl (w, p)) : w ≠ 0 ∧ w ≤ 9 := by
  unfold rSn at h
  split at h
  · cases h
  · rename_i c
    cases h
    have := nuW_b (z := z) (n := n) (f := snP z n f) (lo := 0) (hi := hi)
    omega
theorem rPen_w {z : Nat → Int} {n f w p : Nat} {s : SF} (h : rPen z n s f = .inl (w, p)) : w ≠ 0 ∧ w ≤ 9 := by
  unfold rPen at h
  split at h
  · cases h; omega
  · split at h
    · cases h; omega
    · rcases bnd_l h with h | ⟨a, _, h⟩
      · exact rNu_l h
      · rcases bnd_l h with h | ⟨b, _, h⟩
        · exact rNu_l h
        · rcases bnd_l h with h | ⟨c, _, h⟩
          · exact rNu_l h
          · rcases bnd_l h with h | ⟨d, _, h⟩
            · exact rNu_l h
            · cases h
theorem rPns_w {z : Nat → Int} {n : Nat} : ∀ (d p : Nat) (R : Nat → Nat → Int) (f w q : Nat), rPns z n d p R f = .inl (w, q) → w ≠ 0 ∧ w ≤ 9
  | 0, _, _, _, _, _, h => by cases h
  | d + 1, p, R, f, w, q, h => by
    rcases bnd_l h with h | ⟨a, _, h⟩
    · exact rNu_l h
    · exact rPns_w d _ _ _ w q h
theorem rLin_w {z : Nat → Int} {n f w p : Nat} {s : SF} (h : rLin z n s f = .inl (w, p)) : w ≠ 0 ∧ w ≤ 9 := by
  unfold rLin at h
  split at h
  · exact rPen_w h
  · split at h
    · unfold rCar at h
      split at h
      · cases h; omega
      · rcases bnd_l h with h | ⟨a, _, h⟩
        · exact rNu_l h
        · rcases bnd_l h with h | ⟨b, _, h⟩
          · exact rSn_l h
          · rcases bnd_l h with h | ⟨c, _, h⟩
            · exact rSn_l h
            · cases h
    · split at h
      · split at h
        · cases h; omega
        · rcases bnd_l h with h | ⟨a, _, h⟩
          · exact rPns_w _ _ _ _ _ _ h
          · cases h
      · cases h; omega
theorem swR_w {z : Nat → Int} {n : Nat} : ∀ (d : Nat) (s : SF) (f w p : Nat), swR z n d s f = .inl (w, p) → 1 ≤ w ∧ w ≤ 9
  | 0, _, _, _, _, h => by cases h
  | d + 1, s, f, w, p, h => by
    unfold swR at h
    split at h
    · cases h
    · rcases bnd_l h with h | ⟨a, _, h⟩
      · rcases bnd_l h with h | ⟨b, _, h⟩
        · have := rLin_w h; omega
        · unfold rSem at h
          split at h
          · cases h
          · cases h; omega
      · exact swR_w d _ _ _ _ h
theorem lT196 {g : mH} {w p : Nat} (gi : Iv g) (hF : FM g w p) (w0 : w ≠ 0) (w9 : w ≤ 9) (k : Q (.inl none) g) : Vw G jX11_line 196 [some (.ref 83), none] [] g Q := by
  have hb := FM_bad hF w0 w9
  refine bX11_line_196 gi ⟨fun _ => mX11_need_bad gi hb (bX11_line_222 gi k), fun _ => ⟨fun _ => mX11_need_bad gi hb (bX11_line_222 gi k), fun _ => mX11_need_bad gi hb (bX11_line_222 gi k)⟩⟩
theorem lT104 {g : mH} {w p t : Nat} {vs : Int32} (gi : Iv g) (hF : FM g w p) (w0 : w ≠ 0) (w9 : w ≤ 9) (h4 : t < 4) (k : ∀ g', Cj mxS g g' → FM g' w p → Q (.inl none) g') : Vw G jX11_line 104 [some (.ref 83), none] [.int vs, .int (iI ((3 * t + 2 : Nat) : Int)), .ref 95] g Q := by
  refine bX11_line_104 gi ?_
  rw [ix_n (by omega)]
  have F' := FM_p (o := 95) (k := 3 * t + 2) (v := vs) (.inl (by omega)) hF
  exact ⟨in_n (by omega) (by omega), fun _ => lT196 (g := pI g 95 (3 * t + 2) vs) gi F' w0 w9 (k _ (Cj.rf.pI rfl _) F'), fun c => absurd (good_b.mpr (FM_bad F' w0 w9)) c⟩
theorem lT85 {g : mH} {w p t : Nat} {vs : Int32} (gi : Iv g) (hF : FM g w p) (w0 : w ≠ 0) (w9 : w ≤ 9) (h22 : gI g 83 22 = iI (t : Nat)) (h4 : t < 4) (k : ∀ g', Cj mxS g g' → FM g' w p → Q (.inl none) g') : Vw G jX11_line 85 [some (.ref 83), none] [.int vs, .int (iI ((3 * t + 1 : Nat) : Int)), .ref 95] g Q := by
  refine bX11_line_85 gi ?_
  have q : gI (pI g 95 (3 * t + 1) vs) 83 22 = iI (t : Nat) := by rw [gI_pI, if_neg (by omega)]; exact h22
  rw [ix_n (by omega), q, n_3, mu_n, n_2, ad_n]
  have F' := FM_p (o := 95) (k := 3 * t + 1) (v := vs) (.inl (by omega)) hF
  exact ⟨in_n (by omega) (by omega), mX11_signed_bad (h := pI g 95 (3 * t + 1) vs) gi (FM_bad F' w0 w9) (lT104 (g := pI g 95 (3 * t + 1) vs) gi F' w0 w9 h4 (fun g' C F => k g' ((Cj.rf.pI rfl _).tr C) F))⟩
theorem lT66 {g : mH} {w p t : Nat} {vs : Int32} (gi : Iv g) (hF : FM g w p) (w0 : w ≠ 0) (w9 : w ≤ 9) (h22 : gI g 83 22 = iI (t : Nat)) (h4 : t < 4) (k : ∀ g', Cj mxS g g' → FM g' w p → Q (.inl none) g') : Vw G jX11_line 66 [some (.ref 83), none] [.int vs, .int (iI ((3 * t : Nat) : Int)), .ref 95] g Q := by
  refine bX11_line_66 gi ?_
  have q : gI (pI g 95 (3 * t) vs) 83 22 = iI (t : Nat) := by rw [gI_pI, if_neg (by omega)]; exact h22
  rw [ix_n (by omega), q, n_3, mu_n, n_1, ad_n]
  have F' := FM_p (o := 95) (k := 3 * t) (v := vs) (.inl (by omega)) hF
  exact ⟨in_n (by omega) (by omega), mX11_signed_bad (h := pI g 95 (3 * t) vs) gi (FM_bad F' w0 w9) (lT85 (g := pI g 95 (3 * t) vs) gi F' w0 w9 q h4 (fun g' C F => k g' ((Cj.rf.pI rfl _).tr C) F))⟩
theorem lT164 {g : mH} {w p : Nat} (hw0 : w ≠ 0) (w9 : w ≤ 9) : ∀ (d q : Nat) (g : mH), q + d = 4 → Iv g → FM g w p → (∀ g', Cj mxS g g' → FM g' w p → Q (.inl none) g') → Vw G jX11_line 164 [some (.ref 83), some (.int (iI (q : Nat)))] [] g Q
  | 0, q, g, hq, gi, hF, k => by
    have : q = 4 := by omega
    subst this
    exact bX11_line_164 gi ⟨fun _ => lT196 gi hF hw0 w9 (k g Cj.rf hF), fun c => absurd (by decide) c⟩
  | d + 1, q, g, hq, gi, hF, k => by
    refine bX11_line_164 gi ⟨fun c => ?_, fun _ => mX11_number_bad gi (FM_bad hF hw0 w9) (bX11_line_181 gi ?_)⟩
    · rw [n_4, le_n (by omega) (by omega)] at c
      omega
    · rw [ix_n (by omega), n_1, ad_n]
      exact ⟨in_n (by omega) (by omega), lT164 (g := g) hw0 w9 d (q + 1) _ (by omega) (show Iv g from gi) (FM_p (.inl (by omega)) hF) (fun g' C F => k g' ((Cj.rf.pI rfl _).tr C) F)⟩
theorem mX11_line {z : Nat → Int} {n f : Nat} {s : SF} (hi : Iv h) (hz : ZM z h) (hn4 : n ≤ 400) (hf : f ≤ n) (ht : TM z n f h) (hg : gI h 83 10 = 0) (hs : SR s) (hfn : f < n) (hF : FN s h)
    (k : rdM h Q (bnd (rLin z n s f) (rSem z n)) (fun a g => TM z n a.2 g ∧ FN a.1 g)) : WM G jX11_line [.ref 83] h Q := by
  obtain ⟨a1, a2, a0, a3, a4, a5⟩ := id hF
  -- the sign at the end
  have semi : ∀ (g : mH) (a : SF × Nat), rLin z n s f = .inr a → Cj myS h g → gI g 83 10 = 0 → TM z n a.2 g → FN a.1 g → Vw G jX11_line 196 [some (.ref 83), none] [] g Q := by
    intro g a ra C b t F
    have gi := C.iv hi
    have l := (rLin_r (s' := a.1) (f' := a.2) hfn hs ra).2.2
    have zg := ZM_c C my_89 hz
    have hsn := sign_M zg hn4 t (c := 59) (.inl rfl)
    rw [ra] at k
    simp only [bnd] at k
    unfold rSem at k
    have no : sgT z n a.2 59 = false → WM G jX11_need [.ref 83, .int 0] g (Aft G jX11_line 219 [none, none] [] Q) := fun w => by
      rw [w] at k
      refine mX11_need (b := false) gi zg hn4 l t b (fun y => (by cases y)) (fun _ g' C' F' => bX11_line_222 (C'.iv gi) (k.2 g' 1 a.2 rfl ((my_mx C).tr (nm_mx C')) F'))
    have nf : ∀ {p : Prop}, ¬ p → (p ↔ sgT z n a.2 59 = true) → sgT z n a.2 59 = false := fun hp hq => by
      cases e : sgT z n a.2 59 with
      | false => rfl
      | true => exact absurd (hq.mpr e) hp
    refine bX11_line_196 gi ⟨fun c => no (nf (fun w => c w.1) hsn), fun c => ⟨fun c2 => no (nf (fun w => c2 w.2) hsn), fun c2 => ?_⟩⟩
    have w := hsn.mp ⟨c, c2⟩
    rw [if_pos w] at k
    exact mX11_need (b := true) gi zg hn4 l t b (fun _ g' C' t' b' => bX11_line_222 (C'.iv gi) (k.1 g' _ rfl (C.tr (sm_my C')) b' ⟨t', FN_c C' sm_95 F⟩)) (fun y => (by cases y))
  have fail : ∀ (w p : Nat), rLin z n s f = .inl (w, p) → ∀ g, Cj mxS h g → FM g w p → Q (.inl none) g := fun w p ra g C F => by
    rw [ra] at k
    exact k.2 g w p rfl C F
  have w9 : ∀ {f lo hi}, nuW z n f lo hi ≤ 9 := fun {f lo hi} => by have := nuW_b (z := z) (n := n) (f := f) (lo := lo) (hi := hi); omega
  refine eX11_line hi ?_
  rw [n_3]
  refine mX11_is hi hf hn4 ht (by omega) ?_
  rw [show strM 3 = "pendulum" from rfl]
  refine bX11_line_5 hi ⟨fun c => ?_, fun c => ?_⟩
  · rw [bL_0] at c
    rw [n_4]
    refine mX11_is hi hf hn4 ht (by omega) ?_
    rw [show strM 4 = "cart" from rfl]
    refine bX11_line_20 hi ⟨fun c2 => ?_, fun c2 => ?_⟩
    · rw [bL_0] at c2
      rw [n_5]
      refine mX11_is hi hf hn4 ht (by omega) ?_
      rw [show strM 5 = "pennies" from rfl]
      refine bX11_line_130 hi ⟨fun c3 => ?_, fun c3 => ?_⟩
      · rw [bL_0] at c3
        rw [n_1]
        have hr : rLin z n s f = .inl (1, f) := by unfold rLin; rw [c, c2, c3]; rfl
        refine mX11_wrong hi hg ht.2.2.2.1 (fun g C F => ?_)
        exact lT196 (C.iv hi) F (by omega) (by omega) (fail 1 f hr g (nm_mx (wg_nm C)) F)
      · rw [bL_1] at c3
        rw [a0]
        refine ⟨fun y => bX11_line_145 hi ⟨fun _ => ?_, fun w => absurd hg (good_b.mp w)⟩, fun y => ?_⟩
        · rw [bL_0] at y
          have i1 : Iv (pI h 83 23 1) := hi
          have C1 : Cj myS h (pI h 83 23 1) := Cj.rf.pI rfl _
          have t1 : TM z n f (pI h 83 23 1) := TM_p (.inr (by omega)) ht
          refine mX11_stp i1 (ZM_c C1 my_89 hz) hn4 hf t1 (fun g2 C2' t2 => ?_)
          have C2 := C1.tr (sm_my C2')
          have i2 := C2.iv hi
          have b2 : gI g2 83 10 = 0 := by rw [sm_10 C2', gI_pI, if_neg (by omega)]; exact hg
          have l1 := adT_b (z := z) (n := n) (f := f) hf
          have F2 : FN (s.1, s.2.1, true, s.2.2.2) g2 := by
            refine FN_c (sm_nm C2') nm_95 ⟨?_, ?_, ?_, fun x i hx hi4 => ?_, fun i hi12 => ?_, fun i hic => ⟨?_, fun ax hax => ?_⟩⟩
            · rw [gI_pI, if_neg (by omega)]; exact a1
            · rw [gI_pI, if_neg (by omega)]; exact a2
            · rw [gI_pI, if_pos ⟨rfl, rfl⟩]; rfl
            · rw [gI_pI, if_neg (by omega)]; exact a3 x i hx hi4
            · rw [gI_pI, if_neg (by omega)]; exact a4 i hi12
            · rw [gI_pI, if_neg (by omega)]; exact (a5 i hic).1
            · rw [gI_pI, if_neg (by omega)]; exact (a5 i hic).2 ax hax
          have hr : rLin z n s f = bnd (rPns z n 4 0 s.2.2.2 (adT z n f)) fun a => .inr ((s.1, s.2.1, true, a.1), a.2) := by
            unfold rLin; rw [c, c2, c3, y]; rfl
          refine bX11_line_162 i2 ?_
          rw [n_0]
          have loop : ∀ (d p : Nat) (R : Nat → Nat → Int) (f1 : Nat) (g : mH), p + d = 4 → f1 ≤ n → Cj myS h g → gI g 83 10 = 0 → TM z n f1 g → FN (s.1, s.2.1, true, R) g → (∀ r, rPns z n d p R f1 = r → rPns z n 4 0 s.2.2.2 (adT z n f) = r) → Vw G jX11_line 164 [some (.ref 83), some (.int (iI p))] [] g Q := by
            intro d
            induction d with
            | zero =>
              intro p R f1 g hp hf1 hC b t hF' hr'
              have : p = 4 := by omega
              subst this
              refine bX11_line_164 (hC.iv hi) ⟨fun _ => semi g ((s.1, s.2.1, true, R), f1) ?_ hC b t hF', fun w => absurd (by decide) w⟩
              rw [hr, hr' _ rfl]
              rfl
            | succ d ih =>
              intro p R f1 g hp hf1 hC b t hF' hr'
              have gi := hC.iv hi
              refine bX11_line_164 gi ⟨fun w => ?_, fun _ => ?_⟩
              · rw [n_4, le_n (by omega) (by omega)] at w
                omega
              · rw [show (0 : Int32) = iI 0 from by decide, show (9 : Int32) = iI 9 from by decide]
                refine mX11_number gi (ZM_c hC my_89 hz) hn4 hf1 t b (by omega) (by omega) (by omega) (fun g4 hw4 C4 t4 b4 => ?_) (fun g4 v hw4 C4 F4 => ?_)
                · refine bX11_line_181 (C4.iv gi) ?_
                  rw [ix_n (by omega), n_1, ad_n]
                  refine ⟨in_n (by omega) (by omega), ih (p + 1) (upR R 3 p (nuV z n f1)) (adT z n f1) _ (by omega) (adT_b hf1).2 ((hC.tr (sm_my C4)).pI rfl _) (by rw [gI_pI, if_neg (by omega)]; exact b4) (TM_p (.inl (by omega)) t4) ?_ (fun r h2 => hr' r ?_)⟩
                  · obtain ⟨d1, d2, d0, d3, d4, d5⟩ := FN_c C4 sm_95 hF'
                    refine ⟨?_, ?_, ?_, fun x i hx hi4 => ?_, fun i hi12 => ?_, fun i hic => ⟨?_, fun ax hax => ?_⟩⟩
                    · rw [gI_pI, if_neg (by omega)]; exact d1
                    · rw [gI_pI, if_neg (by omega)]; exact d2
                    · rw [gI_pI, if_neg (by omega)]; exact d0
                    · rw [gI_pI, if_neg (by omega), d3 x i hx hi4]
                      show _ = iI (upR R 3 p (nuV z n f1) x i)
                      unfold upR
                      rw [if_neg (by omega)]
                    · show gI (pI g4 94 p (iI (nuV z n f1))) 94 i = iI (upR R 3 p (nuV z n f1) 3 i)
                      unfold upR
                      rw [gI_pI]
                      by_cases ci : i = p
                      · rw [if_pos ⟨rfl, ci⟩, if_pos ⟨rfl, ci⟩]
                      · rw [if_neg (fun w => ci w.2), if_neg (fun w => ci w.2)]
                        exact d4 i hi12
                    · rw [gI_pI, if_neg (by omega), (d5 i hic).1]
                      show _ = iI (upR R 3 p (nuV z n f1) 4 i)
                      unfold upR
                      rw [if_neg (by omega)]
                    · rw [gI_pI, if_neg (by omega), (d5 i hic).2 ax hax]
                      show _ = iI (upR R 3 p (nuV z n f1) 5 (2 * i + ax))
                      unfold upR
                      rw [if_neg (by omega)]
                  · unfold rPns
                    rw [show rNu z n f1 0 9 = .inr (nuV z n f1, adT z n f1) from by unfold rNu; rw [if_pos hw4]]
                    exact h2
                · refine bX11_line_181 (C4.iv gi) ?_
                  rw [ix_n (by omega), n_1, ad_n]
                  refine ⟨in_n (by omega) (by omega), lT164 (g := g4) hw4 w9 d (p + 1) _ (by omega) (show Iv g4 from C4.iv gi) (FM_p (.inl (by omega)) F4) (fun g' C' F' => fail _ _ ?_ g' ((((my_mx hC).tr (nm_mx C4)).pI rfl _).tr C') F')⟩
                  rw [hr, hr' (.inl (nuW z n f1 0 9, f1)) (by unfold rPns; rw [show rNu z n f1 0 9 = .inl (nuW z n f1 0 9, f1) from by unfold rNu; rw [if_neg hw4]]; rfl)]
                  rfl
          exact loop 4 0 s.2.2.2 (adT z n f) g2 (by omega) l1.2 C2 b2 t2 F2 (fun r h2 => h2)
        · rw [bL_1] at y
          have hr : rLin z n s f = .inl (3, f) := by unfold rLin; rw [c, c2, c3, y]; rfl
          rw [n_3]
          exact mX11_wrong hi hg ht.2.2.2.1 (fun g C F => bX11_line_145 (C.iv hi) ⟨fun w => absurd (good_b.mpr (FM_bad F (by omega) (by omega))) w, fun _ => fail 3 f hr g (nm_mx (wg_nm C)) F⟩)
    · rw [bL_1] at c2
      have hr : rLin z n s f = rCar z n s f := by unfold rLin; rw [c, c2]; rfl
      unfold rCar at hr
      have hc4 := hs.2.1
      rw [a2, n_4, eq_n (by omega) (by omega)]
      refine ⟨fun y => bX11_line_36 hi ⟨fun _ => ?_, fun w => absurd hg (good_b.mp w)⟩, fun y => ?_⟩
      · rw [if_neg (by omega)] at hr
        have c4 : s.2.1 < 4 := by omega
        refine mX11_stp hi hz hn4 hf ht (fun g2 C2' t2 => ?_)
        have C2 := C2'
        have i2 := C2.iv hi
        have b2 : gI g2 83 10 = 0 := by rw [sm_10 C2']; exact hg
        have l1 := adT_b (z := z) (n := n) (f := f) hf
        have h22 : gI g2 83 22 = iI (s.2.1 : Nat) := by rw [C2.2.2.2 83 22 rfl]; exact a2
        refine bX11_line_48 i2 ?_
        rw [h22, n_3, mu_n, show (0 : Int32) = iI 0 from by decide, show (999 : Int32) = iI 999 from by decide]
        refine mX11_number i2 (ZM_c C2 sm_89 hz) hn4 l1.2 t2 b2 (by omega) (by omega) (by omega) (fun g3 hw3 C3 t3 b3 => ?_) (fun g3 v hw3 C3 F3 => ?_)
        · have ra : rNu z n (adT z n f) 0 999 = .inr (nuV z n (adT z n f), adT z n (adT z n f)) := by unfold rNu; rw [if_pos hw3]
          rw [ra] at hr
          simp only [bnd] at hr
          have i3 := C3.iv i2
          have l2 := adT_b (z := z) (n := n) (f := adT z n f) l1.2
          generalize hp2 : adT z n (adT z n f) = p2 at *
          refine bX11_line_66 i3 ?_
          have r4 : gI (pI g3 95 (3 * s.2.1) (iI (nuV z n (adT z n f)))) 83 22 = iI (s.2.1 : Nat) := by rw [gI_pI, if_neg (by omega), C3.2.2.2 83 22 rfl]; exact h22
          rw [ix_n (by omega), r4, n_3, mu_n, n_1, ad_n, show (20 : Int32) = iI 20 from by decide]
          refine ⟨in_n (by omega) (by omega), ?_⟩
          generalize hg4 : pI g3 95 (3 * s.2.1) (iI (nuV z n (adT z n f))) = g4 at *
          have C4 : Cj myS h g4 := by rw [← hg4]; exact (sm_my (C2.tr C3)).pI rfl _
          have i4 := C4.iv hi
          have t4 : TM z n p2 g4 := by rw [← hg4]; exact TM_p (.inl (by omega)) t3
          have b4 : gI g4 83 10 = 0 := by rw [← hg4, gI_pI, if_neg (by omega)]; exact b3
          refine mX11_signed i4 (ZM_c C4 my_89 hz) hn4 l2.2 t4 b4 (by omega) (fun g5 hw5 C5 t5 b5 => ?_) (fun g5 v hw5 C5 F5 => ?_)
          · have rb : rSn z n p2 20 = .inr (snV z n p2, adT z n (snP z n p2)) := by unfold rSn; rw [if_pos hw5]
            rw [rb] at hr
            simp only at hr
            have i5 := C5.iv i4
            have l3 := snP_b (z := z) (n := n) (f := p2) l2.2
            have l4 := adT_b (z := z) (n := n) (f := snP z n p2) l3.2
            generalize hp3 : adT z n (snP z n p2) = p3 at *
            refine bX11_line_85 i5 ?_
            have r6 : gI (pI g5 95 (3 * s.2.1 + 1) (iI (snV z n p2))) 83 22 = iI (s.2.1 : Nat) := by rw [gI_pI, if_neg (by omega), C5.2.2.2 83 22 rfl]; exact r4
            rw [ix_n (by omega), r6, n_3, mu_n, n_2, ad_n, show (20 : Int32) = iI 20 from by decide]
            refine ⟨in_n (by omega) (by omega), ?_⟩
            generalize hg6 : pI g5 95 (3 * s.2.1 + 1) (iI (snV z n p2)) = g6 at *
            have C6 : Cj myS h g6 := by rw [← hg6]; exact (C4.tr (sm_my C5)).pI rfl _
            have i6 := C6.iv hi
            have t6 : TM z n p3 g6 := by rw [← hg6]; exact TM_p (.inl (by omega)) t5
            have b6 : gI g6 83 10 = 0 := by rw [← hg6, gI_pI, if_neg (by omega)]; exact b5
            refine mX11_signed i6 (ZM_c C6 my_89 hz) hn4 l4.2 t6 b6 (by omega) (fun g7 hw7 C7 t7 b7 => ?_) (fun g7 v hw7 C7 F7 => ?_)
            · have rc : rSn z n p3 20 = .inr (snV z n p3, adT z n (snP z n p3)) := by unfold rSn; rw [if_pos hw7]
              rw [rc] at hr
              simp only at hr
              have i7 := C7.iv i6
              refine bX11_line_104 i7 ?_
              rw [ix_n (by omega)]
              have b8 : gI (pI g7 95 (3 * s.2.1 + 2) (iI (snV z n p3))) 83 10 = 0 := by rw [gI_pI, if_neg (by omega)]; exact b7
              have r8 : gI (pI g7 95 (3 * s.2.1 + 2) (iI (snV z n p3))) 83 22 = iI (s.2.1 : Nat) := by rw [gI_pI, if_neg (by omega), C7.2.2.2 83 22 rfl]; exact r6
              refine ⟨in_n (by omega) (by omega), fun w => absurd b8 (good_b.mp w), fun _ => ?_⟩
              rw [r8, n_1, ad_n]
              refine semi _ _ hr (((C6.tr (sm_my C7)).pI rfl _).pI rfl _) (by rw [gI_pI, if_neg (by omega)]; exact b8) (TM_p (.inr (by omega)) (TM_p (.inl (by omega)) t7)) ?_
              have nn : ∀ {a b : mH}, Cj smS a b → ∀ o j, (91 ≤ o ∧ o ≤ 95) ∨ (o = 83 ∧ 20 ≤ j) → gI b o j = gI a o j := fun hC o j ho => hC.2.2.2 o j (sm_95 o j ho)
              have fin : ∀ o j, (91 ≤ o ∧ o ≤ 95) ∨ (o = 83 ∧ 20 ≤ j) → gI (pI (pI g7 95 (3 * s.2.1 + 2) (iI (snV z n p3))) 83 22 (iI ((s.2.1 + 1 : Nat) : Int))) o j = if o = 83 ∧ j = 22 then iI ((s.2.1 + 1 : Nat) : Int) else if o = 95 ∧ j = 3 * s.2.1 + 2 then iI (snV z n p3) else if o = 95 ∧ j = 3 * s.2.1 + 1 then iI (snV z n p2) else if o = 95 ∧ j = 3 * s.2.1 then iI (nuV z n (adT z n f)) else gI h o j := fun o j ho => by
                rw [gI_pI, gI_pI, nn C7 o j ho, ← hg6, gI_pI, nn C5 o j ho, ← hg4, gI_pI, nn C3 o j ho, nn C2 o j ho]
              refine ⟨?_, ?_, ?_, fun x i hx hi4 => ?_, fun i hi12 => ?_, fun i hic => ⟨?_, fun ax hax => ?_⟩⟩
              · rw [fin 83 21 (by omega), if_neg (by omega), if_neg (by omega), if_neg (by omega), if_neg (by omega)]; exact a1
              · rw [fin 83 22 (by omega), if_pos ⟨rfl, rfl⟩]
              · rw [fin 83 23 (by omega), if_neg (by omega), if_neg (by omega), if_neg (by omega), if_neg (by omega)]; exact a0
              · rw [fin (91 + x) i (by omega), if_neg (by omega), if_neg (by omega), if_neg (by omega), if_neg (by omega), a3 x i hx hi4]
                show _ = iI (upR (upR (upR s.2.2.2 4 s.2.1 (nuV z n (adT z n f))) 5 (2 * s.2.1) (snV z n p2)) 5 (2 * s.2.1 + 1) (snV z n p3) x i)
                unfold upR
                rw [if_neg (by omega), if_neg (by omega), if_neg (by omega)]
              · rw [fin 94 i (by omega), if_neg (by omega), if_neg (by omega), if_neg (by omega), if_neg (by omega), a4 i hi12]
                show _ = iI (upR (upR (upR s.2.2.2 4 s.2.1 (nuV z n (adT z n f))) 5 (2 * s.2.1) (snV z n p2)) 5 (2 * s.2.1 + 1) (snV z n p3) 3 i)
                unfold upR
                rw [if_neg (by omega), if_neg (by omega), if_neg (by omega)]
              · have hic' : i < s.2.1 + 1 := hic
                rw [fin 95 _ (by omega), if_neg (by omega), if_neg (by omega), if_neg (by omega)]
                show _ = iI (upR (upR (upR s.2.2.2 4 s.2.1 (nuV z n (adT z n f))) 5 (2 * s.2.1) (snV z n p2)) 5 (2 * s.2.1 + 1) (snV z n p3) 4 i)
                have hu : upR (upR (upR s.2.2.2 4 s.2.1 (nuV z n (adT z n f))) 5 (2 * s.2.1) (snV z n p2)) 5 (2 * s.2.1 + 1) (snV z n p3) 4 i = if i = s.2.1 then nuV z n (adT z n f) else s.2.2.2 4 i := by unfold upR; simp
                rw [hu]
                by_cases ci : i = s.2.1
                · rw [if_pos ⟨rfl, by omega⟩, if_pos ci]
                · rw [if_neg (by omega), if_neg ci]
                  exact (a5 i (by omega)).1
              · have hic' : i < s.2.1 + 1 := hic
                rw [fin 95 _ (by omega), if_neg (by omega)]
                show _ = iI (upR (upR (upR s.2.2.2 4 s.2.1 (nuV z n (adT z n f))) 5 (2 * s.2.1) (snV z n p2)) 5 (2 * s.2.1 + 1) (snV z n p3) 5 (2 * i + ax))
                have hu : upR (upR (upR s.2.2.2 4 s.2.1 (nuV z n (adT z n f))) 5 (2 * s.2.1) (snV z n p2)) 5 (2 * s.2.1 + 1) (snV z n p3) 5 (2 * i + ax) = if 2 * i + ax = 2 * s.2.1 + 1 then snV z n p3 else if 2 * i + ax = 2 * s.2.1 then snV z n p2 else s.2.2.2 5 (2 * i + ax) := by unfold upR; simp
                rw [hu]
                by_cases c1 : 2 * i + ax = 2 * s.2.1 + 1
                · rw [if_pos ⟨rfl, by omega⟩, if_pos c1]
                · rw [if_neg (by omega), if_neg c1]
                  by_cases c2 : 2 * i + ax = 2 * s.2.1
                  · rw [if_pos ⟨rfl, by omega⟩, if_pos c2]
                  · rw [if_neg (by omega), if_neg c2, if_neg (by omega)]
                    exact (a5 i (by omega)).2 ax hax
            · have rc : rSn z n p3 20 = .inl (nuW z n (snP z n p3) 0 20, snP z n p3) := by unfold rSn; rw [if_neg hw7]
              rw [rc] at hr
              exact lT104 (C7.iv i6) F7 hw7 w9 c4 (fun g' C' F' => fail _ _ hr g' (((my_mx C6).tr (nm_mx C7)).tr C') F')
          · have rb : rSn z n p2 20 = .inl (nuW z n (snP z n p2) 0 20, snP z n p2) := by unfold rSn; rw [if_neg hw5]
            rw [rb] at hr
            exact lT85 (C5.iv i4) F5 hw5 w9 (by rw [C5.2.2.2 83 22 rfl]; exact r4) c4 (fun g' C' F' => fail _ _ hr g' (((my_mx C4).tr (nm_mx C5)).tr C') F')
        · have ra : rNu z n (adT z n f) 0 999 = .inl (nuW z n (adT z n f) 0 999, adT z n f) := by unfold rNu; rw [if_neg hw3]
          rw [ra] at hr
          exact lT66 (C3.iv i2) F3 hw3 w9 (by rw [C3.2.2.2 83 22 rfl]; exact h22) c4 (fun g' C' F' => fail _ _ hr g' ((nm_mx ((sm_nm C2).tr C3)).tr C') F')
      · rw [if_pos (by omega)] at hr
        rw [n_2]
        exact mX11_wrong hi hg ht.2.2.2.1 (fun g C F => bX11_line_36 (C.iv hi) ⟨fun w => absurd (good_b.mpr (FM_bad F (by omega) (by omega))) w, fun _ => fail 2 f hr g (nm_mx (wg_nm C)) F⟩)
  · rw [bL_1] at c
    have hr : rLin z n s f = rPen z n s f := by unfold rLin; rw [c]; rfl
    refine mX11_readsPendulum hi hz hn4 hf ht hg hs.1 hF ⟨fun g a ra C b o => bX11_line_12 (C.iv hi) (semi g a (by rw [hr]; exact ra) C b o.1 o.2), fun g w p ra C F => ?_⟩
    have hw : w ≠ 0 ∧ w ≤ 9 := rPen_w ra
    exact bX11_line_12 (C.iv hi) (lT196 (C.iv hi) F hw.1 hw.2 (fail w p (by rw [hr]; exact ra) g C F))
end SWM2
