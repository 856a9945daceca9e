section SCM5
variable {G : GX} {h : mH} {Q : mO → mH → Prop} {z : Nat → Int} {n : Nat}
theorem mX11_closes {f o : Nat} {O : List Nat} {s : PF} (hi : Iv h) (hz : ZM z h) (hn4 : n ≤ 400) (hf : f < n) (ht : TM z n f h) (hg : gI h 83 10 = 0) (hc : FOc s h) (ho : FOo s h) (hI : SI s f) (hJ : SJ s) (hO : s.2.2 = o :: O) (k : rdN h Q z n (rClo z n s o O f)) : WM G jX11_closes [.ref 83] h Q := by
  obtain ⟨j1, j2, j3⟩ := id hI
  rw [hO] at j2
  have j2' : O.length + 1 ≤ 5 := j2
  have s100 : s.1 < 100 := by omega
  have qb := kpV_b (R := s.2.1) s.1
  obtain ⟨os, ov⟩ := hJ.2 o (by rw [hO]; exact List.mem_cons_self)
  have Os : ∀ x, x ∈ O → x < s.1 := fun x hx => (hJ.2 x (by rw [hO]; exact List.mem_cons_of_mem _ hx)).1
  have ob := kpV_lt (R := s.2.1) os
  have lo := lnV_b (v := s.2.1 0 o)
  obtain ⟨o48, oop⟩ := ho
  rw [hO] at o48 oop
  obtain ⟨p106, p107, pO⟩ := oop
  have al := adT_lt (z := z) hf
  refine eX11_closes hi (mX11_stp hi hz hn4 (by omega) ht (fun g1 C1 t1 => ?_))
  have e48 : gI g1 83 48 - 1 = iI ((O.length : Nat) : Int) := by rw [C1.2.2.2 83 48 rfl, o48, n_1, su_n (by show 1 ≤ O.length + 1; omega)]; rfl
  refine bX11_closes_4 (C1.iv hi) ?_
  rw [e48]
  generalize hg2 : pI g1 83 48 (iI ((O.length : Nat) : Int)) = g2
  have C2 : Cj scM h g2 := by rw [← hg2]; exact (sm_sc C1).pI rfl _
  have i2 := C2.iv hi
  have z2 : ZM z g2 := ZM_c C2 (fun k => rfl) hz
  have t2 : TM z n (adT z n f) g2 := by rw [← hg2]; exact TM_p (.inr (by omega)) t1
  have q2 : gI g2 83 10 = 0 := by rw [C2.2.2.2 83 10 rfl]; exact hg
  have w2 : ∀ a b, a = 105 ∨ a = 106 ∨ a = 107 ∨ (a = 83 ∧ b = 47) → gI g2 a b = gI h a b := fun a b hab => by
    rw [← hg2, gI_pI, if_neg (by omega), C1.2.2.2 a b (by unfold smS; simp; omega)]
  have g48 : gI g2 83 48 = iI ((O.length : Nat) : Int) := by rw [← hg2, gI_pI, if_pos ⟨rfl, rfl⟩]
  clear hg2
  have c2 : FOc s g2 := ⟨by rw [w2 83 47 (by omega)]; exact hc.1, fun i j hi hj hx => by rw [w2 105 _ (by omega)]; exact hc.2 i j hi hj hx⟩
  have pO2 : opm s.2.1 g2 O := opm_cg _ (fun k _ => ⟨w2 106 k (by omega), w2 107 k (by omega)⟩) (fun _ _ _ _ => rfl) pO
  rw [g48, ix_n (by omega), w2 106 _ (by omega), w2 107 _ (by omega), p106, p107]
  have P2 : PT (kpV s.2.1 s.1) [] g2 := ⟨c2.1, fun j hj => absurd hj (by show ¬ j < 0; omega)⟩
  unfold rClo at k
  refine ⟨in_n (by omega) (by omega), in_n (by omega) (by omega), ?_⟩
  -- the plain end of a block
  have plain : ¬ s.2.1 0 o = 5 → ¬ (s.2.1 0 o = 6 ∧ wdS z n (adT z n f) "else" = true) → Vw G jX11_closes 127 [some (.ref 83), some (.int (iI ((kpV s.2.1 o + joV (s.2.1 0 o) : Nat) : Int)))] [] g2 Q := fun c5 ce => by
    rw [if_neg c5, if_neg ce] at k
    have jb : joV (s.2.1 0 o) ≤ 4 := by unfold joV; repeat' split
                                        all_goals omega
    refine bX11_closes_127 i2 ?_
    rw [ix_n (by omega), c2.1]
    have c2' : FOc (s.1, s.2.1, o :: O) g2 := by rw [← hO]; exact c2
    have fj := FO_jmp (j0 := joV (s.2.1 0 o)) c2' os (by
      unfold isJ joV
      rcases ov with e | e | e
      · exact absurd e c5
      · rw [e]; decide
      · rw [e]; decide)
    refine ⟨in_n (by omega) (by omega), k.1 _ _ rfl (C2.pI (by unfold scM; simp) _) (by rw [gI_pI, if_neg (by omega)]; exact q2) (TM_p (.inl (by omega)) t2) fj ⟨?_, ?_⟩⟩
    · rw [gI_pI, if_neg (by omega)]; exact g48
    · refine opm_cg _ (fun k _ => ⟨?_, ?_⟩) (fun x hx y hy => by simp only; rw [upR_0 (by omega)]) pO2
      · rw [gI_pI, if_neg (by omega)]
      · rw [gI_pI, if_neg (by omega)]
  have k11 : ¬ iI (koV (s.2.1 0 o)) = 11 ↔ ¬ s.2.1 0 o = 5 := by
    rcases ov with e | e | e <;> rw [e] <;> decide
  have k11' : iI (koV (s.2.1 0 o)) = 11 ↔ s.2.1 0 o = 5 := by
    rcases ov with e | e | e <;> rw [e] <;> decide
  have k12 : iI (koV (s.2.1 0 o)) = 12 ↔ s.2.1 0 o = 6 := by
    rcases ov with e | e | e <;> rw [e] <;> decide
  rw [k11', k12]
  refine ⟨fun c5 => ⟨in_n (by omega) (by omega), fun c6 => plain c5 (fun x => c6 x.1), fun c6 => ?_⟩, fun c5 => ?_⟩
  · rw [if_neg c5] at k
    rw [show (13 : Int32) = iI ((13 : Nat) : Int) from by decide]
    refine mX11_is i2 al.2 hn4 t2 (by omega) (bX11_closes_84 i2 ⟨fun c => ?_, fun c => ?_⟩)
    · rw [bL_0] at c
      have c' : wdS z n (adT z n f) "else" = false := c
      exact plain c5 (fun x => by rw [c'] at x; exact absurd x.2 (by decide))
    · rw [bL_1] at c
      have c' : wdS z n (adT z n f) "else" = true := c
      rw [if_pos ⟨c6, c'⟩] at k
      have al2 := wdS_ad c'
      refine mX11_stp i2 z2 hn4 al.2 t2 (fun g3 C3 t3 => ?_)
      have D3 := C2.tr (sm_sc C3)
      refine bX11_closes_91 (D3.iv hi) (mX11_puts (z := z) (n := n) (D3.iv hi) (PT_c C3 P2) (by show kpV s.2.1 s.1 + 0 < 600; omega) (fun g4 C4 P4 w4 T4 _ => ?_))
      have D4 := D3.tr (pu_sc C4)
      refine bX11_closes_97 (D4.iv hi) (mX11_puts (z := z) (n := n) (D4.iv hi) P4 (by show kpV s.2.1 s.1 + 1 < 600; omega) (fun g5 C5 P5 w5 T5 _ => ?_))
      have D5 := D4.tr (pu_sc C5)
      have B5 : Cj (puS (kpV s.2.1 s.1)) g2 g5 := (sm_pu C3).tr (C4.tr C5)
      have Fc : FOc (s.1 + 1, (adS s 8).2.1, o :: s.1 :: O) g5 := FO_fin (xs := [101, 0]) c2 hJ B5 P5 rfl (fun a i hi => adS_ne hi) (fun i _ hm => by
        rw [hO] at hm
        rcases List.mem_cons.mp hm with e | hm
        · rw [e]; exact List.mem_cons_self
        · exact List.mem_cons_of_mem _ (List.mem_cons_of_mem _ hm)) (by simp only; rw [adS_n]; rfl) (fun j hj hx => by
        simp only at hx ⊢
        rw [adS_n] at hx
        rcases (show j = 0 ∨ j = 1 from by have : j < 2 := hj; omega) with rfl | rfl
        · unfold cdV
          rw [if_pos rfl, adS_n]
          decide
        · exact absurd ⟨List.mem_cons_of_mem _ List.mem_cons_self, .inr (.inr ⟨rfl, rfl⟩)⟩ hx)
      have kz : kpV (adS s 8).2.1 o = kpV s.2.1 o := kpV_cg o (fun x hx => adS_ne (by omega))
      have v8 : (adS s 8).2.1 0 o = 6 := by rw [adS_ne (by omega)]; exact c6
      have fj := FO_jmp (j0 := 4) Fc (show o < s.1 + 1 by omega) (by rw [v8]; exact .inr (.inl ⟨rfl, rfl⟩))
      rw [kz] at fj
      have jv : joV (s.2.1 0 o) = 4 := by rw [c6]; rfl
      refine bX11_closes_102 (D5.iv hi) ?_
      rw [jv, ix_n (by omega), gI_pI, if_neg (by omega), Fc.1]
      have top : kpV (adS s 8).2.1 (s.1 + 1) = kpV s.2.1 s.1 + 2 := by
        show kpV (adS s 8).2.1 s.1 + lnV ((adS s 8).2.1 0 s.1) = _
        rw [kpV_cg (R := s.2.1) s.1 (fun x hx => adS_ne (by omega)), adS_n]
        rfl
      simp only
      refine ⟨in_n (by omega) (by omega), ?_⟩
      rw [top, n_1, su_n (by omega), ← top]
      generalize hg6 : pI g5 105 (kpV s.2.1 o + 4) (iI ((kpV (adS s 8).2.1 (s.1 + 1) : Nat) : Int)) = g6 at fj
      have D6 : Cj scM h g6 := by rw [← hg6]; exact D5.pI (by unfold scM; simp) _
      have t6 : TM z n (adT z n (adT z n f)) g6 := by rw [← hg6]; exact TM_p (.inl (by omega)) (T5 _ (T4 _ t3))
      have q6 : gI g6 83 10 = 0 := by rw [D6.2.2.2 83 10 rfl]; exact hg
      have w6 : ∀ a b, a = 106 ∨ a = 107 ∨ (a = 83 ∧ b = 48) → gI g6 a b = gI g2 a b := fun a b hab => by
        rw [← hg6, gI_pI, if_neg (by omega), B5.2.2.2 a b (by unfold puS smS; simp; omega)]
      clear hg6
      refine mX11_opens (D6.iv hi) (ZM_c D6 (fun k => rfl) hz) hn4 al2.2 t6 q6 (d := O.length) (by rw [w6 83 48 (by omega)]; exact g48) (by omega) (fun g7 hs C7 t7 q7 h48 h106 h107 => ?_) (fun g7 hs C7 F7 => ?_)
      · refine bX11_closes_124 (C7.iv (D6.iv hi)) (k.1 g7 ((s.1 + 1, upR (adS s 8).2.1 3 o (s.1 + 1 : Nat), s.1 :: O), adT z n (adT z n (adT z n f))) (by unfold rOpn; rw [if_pos hs]; rfl) (D6.tr (op_sc C7)) q7 t7 (FOc_c C7 (fun k => rfl) rfl fj) ⟨h48, ?_, ?_, ?_⟩)
        · rw [h106]
          simp only
          rw [upR_0 (by omega), adS_n]
          decide
        · rw [h107]
          simp only
          rw [upR_0 (by omega), adS_n, kpV_cg (R := s.2.1) s.1 (fun x hx => by rw [upR_0 (by omega), adS_ne (by omega)]), top]
          rfl
        · refine opm_cg _ (fun k hk => ?_) (fun x hx y hy => ?_) pO2
          · have e1 : opS O.length 106 k = false := by unfold opS smS; simp; omega
            have e2 : opS O.length 107 k = false := by unfold opS smS; simp; omega
            exact ⟨by rw [C7.2.2.2 106 k e1, w6 106 k (by omega)], by rw [C7.2.2.2 107 k e2, w6 107 k (by omega)]⟩
          · simp only
            have := Os x hx
            rw [upR_0 (by omega), adS_ne (by omega)]
      · exact bX11_closes_124 (C7.iv (D6.iv hi)) (k.2 g7 1 (adT z n (adT z n f)) (by unfold rOpn; rw [if_neg (by rw [hs]; decide)]) ((scM_sf D6).tr C7) F7)
  · rw [if_pos c5] at k
    have jv : joV (s.2.1 0 o) = 3 := by rw [c5]; rfl
    have lv : lnV (s.2.1 0 o) = 3 := by rw [c5]; rfl
    rw [jv]
    refine mX11_puts (z := z) (n := n) i2 P2 (by show kpV s.2.1 s.1 + 0 < 600; omega) (fun g4 C4 P4 w4 T4 _ => ?_)
    have D4 := C2.tr (pu_sc C4)
    refine bX11_closes_44 (D4.iv hi) (mX11_puts (z := z) (n := n) (D4.iv hi) P4 (by show kpV s.2.1 s.1 + 1 < 600; omega) (fun g5 C5 P5 w5 T5 _ => ?_))
    have D5 := D4.tr (pu_sc C5)
    have B5 : Cj (puS (kpV s.2.1 s.1)) g2 g5 := C4.tr C5
    generalize hR : upR (upR (adS s 7).2.1 3 s.1 (o + 1 : Nat)) 1 s.1 (o : Nat) = R' at k
    have r0 : ∀ a i, i ≠ s.1 → R' a i = s.2.1 a i := fun a i hi => by rw [← hR, upR_ne hi, upR_ne hi, adS_ne hi]
    have rv : R' 0 s.1 = 7 := by rw [← hR, upR_0 (by omega), upR_0 (by omega), adS_n]
    have r3 : R' 3 s.1 = ((o + 1 : Nat) : Int) := by rw [← hR, upR_na (by omega), upR_eq]
    have Fc : FOc (s.1 + 1, R', o :: O) g5 := FO_fin (xs := [100, iI ((kpV s.2.1 o + 3 : Nat) : Int)]) c2 hJ B5 P5 rfl r0 (fun i _ hm => by rw [hO] at hm; exact hm) (by simp only; rw [rv]; rfl) (fun j hj hx => by
      simp only at hx ⊢
      rcases (show j = 0 ∨ j = 1 from by have : j < 2 := hj; omega) with rfl | rfl
      · unfold cdV
        rw [if_pos rfl, rv]
        show (100 : Int32) = _
        decide
      · unfold cdV
        rw [rv, r3, Int.toNat_natCast]
        rw [if_neg (by omega), if_neg (by omega), if_neg (by omega), if_neg (by omega), if_neg (by omega), if_neg (by omega), if_neg (by omega)]
        show _ = iI ((kpV R' o + lnV (R' 0 o) : Nat) : Int)
        rw [r0 0 o (by omega), lv, kpV_cg (R := s.2.1) o (fun x hx => r0 0 x (by omega))]
        rfl)
    have kz : kpV R' o = kpV s.2.1 o := kpV_cg o (fun x hx => r0 0 x (by omega))
    have fj := FO_jmp (j0 := 2) Fc (show o < s.1 + 1 by omega) (by rw [r0 0 o (by omega), c5]; exact .inl ⟨rfl, rfl⟩)
    rw [kz] at fj
    refine bX11_closes_49 (D5.iv hi) ?_
    rw [Fc.1, n_1, su_n (by omega), ix_n (by omega)]
    refine ⟨in_n (by omega) (by omega), ?_⟩
    rw [show kpV s.2.1 o + 3 - 1 = kpV s.2.1 o + 2 from by omega]
    refine k.1 _ _ rfl (D5.pI (by unfold scM; simp) _) ?_ (TM_p (.inl (by omega)) (T5 _ (T4 _ t2))) fj ⟨?_, ?_⟩
    · rw [gI_pI, if_neg (by omega), D5.2.2.2 83 10 rfl]; exact hg
    · rw [gI_pI, if_neg (by omega), B5.2.2.2 83 48 rfl]; exact g48
    · refine opm_cg _ (fun k _ => ⟨?_, ?_⟩) (fun x hx y hy => ?_) pO2
      · rw [gI_pI, if_neg (by omega), B5.2.2.2 106 k rfl]
      · rw [gI_pI, if_neg (by omega), B5.2.2.2 107 k rfl]
      · simp only
        have := Os x hx
        rw [upR_0 (by omega), r0 0 y (by omega)]
/-- the model's code -/
def FK (s : PF) (g : mH) : Prop := (∀ i j, i < s.1 → j < lnV (s.2.1 0 i) → gI g 104 (kpV s.2.1 i + j) = iI (cdV s.2.1 i j)) ∧ gI g 104 (kpV s.2.1 s.1) = 0
def snS (o k : Nat) : Bool := (o == 83 && (k == 0 || (decide (9 ≤ k ∧ k ≤ 19) || (k == 47 || (k == 48))))) || (decide (104 ≤ o ∧ o ≤ 107) || (o == 90 && (k == 0)))
theorem mX11_score {l : Nat} {v : Int32} (hi : Iv h) (hz : ZM z h) (hl : gI h 83 9 = iI l) (hl4 : l ≤ 400) (kI : ¬ (0 ≤ v.toInt ∧ v.toInt ≤ l) → Q (.inl (some (.int 0))) (pI (pI h 83 0 0) 83 0 1))
    (ky : ∀ g s, (0 ≤ v.toInt ∧ v.toInt ≤ l) → scR z v.toInt.toNat 401 s0P (rn cB z v.toInt.toNat 0) = .inr s → Cj snS h g → FK s g → gI g 83 0 = 0 → gI g 83 9 = 0 → gI g 83 11 = -1 → gI g 90 0 = gI h 90 0 → Q (.inl (some (.int 0))) g)
    (kn : ∀ g w p, (0 ≤ v.toInt ∧ v.toInt ≤ l) → scR z v.toInt.toNat 401 s0P (rn cB z v.toInt.toNat 0) = .inl (w, p) → Cj snS h g → (∀ k, gI g 104 k = gI h 104 k) → gI g 83 0 = 0 → gI g 83 9 = 0 → gI g 83 11 = iI (p : Nat) → gI g 90 0 = gI h 90 0 + 1 → Q (.inl (some (.int (iI (w : Nat))))) g) : WM G jX11_score [.ref 83, .int v] h Q := by
  have hi0 : Iv (pI h 83 0 0) := hi
  have h00 : gI (pI h 83 0 0) 83 0 = 0 := by rw [gI_pI]; rfl
  have e9 : gI (pI h 83 0 0) 83 9 = iI l := by rw [gI_pI, if_neg (by omega)]; exact hl
  have no : ¬ (0 ≤ v.toInt ∧ v.toInt ≤ l) → WM G jX11_right [.ref 83, .int 0, .int 1] (pI h 83 0 0) (Aft G jX11_score 24 [some (.ref 83), some (.int v)] [] Q) := fun z => mX11_right0 hi0 h00 (by decide) (bX11_score_27 (h := pI (pI h 83 0 0) 83 0 1) hi ⟨fun z => absurd rfl z, fun _ => kI z⟩)
  have l0 : v < 0 ↔ v.toInt < 0 := by rw [i32_0, i32_lt ⟨by decide, by decide⟩]
  have l1 : iI (l : Int) < v ↔ (l : Int) < v.toInt := i32_gt ⟨by omega, by omega⟩
  refine eX11_score hi ?_
  rw [e9, l0, l1]
  refine ⟨fun c => no (by omega), fun c1 => ⟨fun c => no (by omega), fun c2 => mX11_right1 hi0 h00 (by decide) (bX11_score_27 hi0 ⟨fun _ => ?_, fun z => absurd z (by decide)⟩)⟩⟩
  have hv : 0 ≤ v.toInt ∧ v.toInt ≤ l := by omega
  have ky' := fun g s => ky g s hv
  have kn' := fun g w p => kn g w p hv
  have ev := i32_nat hv.1
  have hn : v.toInt.toNat ≤ l := by omega
  clear ky kn kI no c1 c2 l0 l1 hv
  generalize v.toInt.toNat = n at *
  subst ev
  have fb := rn_b (p := cB) (z := z) (n := n) n 0 (by omega)
  generalize hg1 : pI (pI (pI (pI (pI (pI (pI (pI h 83 0 0) 83 9 0) 83 11 (-1)) 83 10 0) 83 13 (iI n)) 83 14 0) 83 47 0) 83 48 0 = g1
  have C1 : Cj snS h g1 := by rw [← hg1]; exact (((((((Cj.rf.pI rfl _).pI rfl _).pI rfl _).pI rfl _).pI rfl _).pI rfl _).pI rfl _).pI rfl _
  have p0 : gI g1 83 0 = 0 := by rw [← hg1]; simp [gI_pI]
  have p9 : gI g1 83 9 = 0 := by rw [← hg1]; simp [gI_pI]
  have p10 : gI g1 83 10 = 0 := by rw [← hg1]; simp [gI_pI]
  have p11 : gI g1 83 11 = -1 := by rw [← hg1]; simp [gI_pI]
  have p13 : gI g1 83 13 = iI n := by rw [← hg1]; simp [gI_pI]
  have p14 : gI g1 83 14 = iI ((0 : Nat) : Int) := by rw [← hg1]; simp [gI_pI]; exact n_0
  have p47 : gI g1 83 47 = iI ((0 : Nat) : Int) := by rw [← hg1]; simp [gI_pI]; exact n_0
  have p48 : gI g1 83 48 = iI ((0 : Nat) : Int) := by rw [← hg1]; simp [gI_pI]; exact n_0
  have pw : ∀ o k, o ≠ 83 → gI g1 o k = gI h o k := fun o k ho => by
    rw [← hg1]
    simp [gI_pI, ho]
  clear hg1
  have i1 := C1.iv hi
  have z1 : ZM z g1 := fun i hi => by rw [pw 89 i (by omega)]; exact hz i hi
  have scn : ∀ {a b : mH}, Cj scM a b → Cj snS a b := fun hC => hC.wk (fun o k ho => by
    unfold snS at ho
    unfold scM smS
    simp at ho ⊢
    refine ⟨?_, ?_, ?_⟩
    · intro e a
      have := ho.1 e
      omega
    · have := ho.2.1
      omega
    · intro e
      have := ho.1 e
      omega)
  have sfn : ∀ {a b : mH}, Cj sfM a b → Cj snS a b := fun hC => hC.wk (fun o k ho => by
    unfold snS at ho
    unfold sfM nmS
    simp at ho ⊢
    refine ⟨?_, ?_, ?_⟩
    · intro e a
      have := ho.1 e
      omega
    · have := ho.2.1
      omega
    · intro e
      have := ho.1 e
      omega)
  -- a fault
  have go127b : ∀ (g : mH) (w p : Nat), scR z n 401 s0P (rn cB z n 0) = .inl (w, p) → Cj sfM g1 g → FM g w p → Vw G jX11_score 127 [some (.ref 83), none] [] g Q := by
    intro g w p e C F
    obtain ⟨w1, w2⟩ := scR_w _ _ _ w p e
    have b := FM_bad F (by omega) (by omega)
    refine bX11_score_127 (C.iv i1) ⟨fun c => absurd (good_b.mpr b) c, fun _ => ?_⟩
    rw [gI_pI, if_neg (by omega), F.1]
    refine kn' _ w p e ((C1.tr (sfn C)).pI rfl _) (fun k => ?_) ?_ ?_ ?_ ?_
    · rw [gI_pI, if_neg (by omega), C.2.2.2 104 k rfl, pw 104 k (by omega)]
    · rw [gI_pI, if_neg (by omega), C.2.2.2 83 0 rfl]; exact p0
    · rw [gI_pI, if_neg (by omega), C.2.2.2 83 9 rfl]; exact p9
    · rw [gI_pI, if_neg (by omega)]; exact F.2
    · rw [gI_pI, if_pos ⟨rfl, rfl⟩, C.2.2.2 90 0 rfl, pw 90 0 (by omega)]
  have go115b : ∀ (g : mH) (w p : Nat), scR z n 401 s0P (rn cB z n 0) = .inl (w, p) → Cj sfM g1 g → FM g w p → Vw G jX11_score 115 [some (.ref 83), none] [] g Q := by
    intro g w p e C F
    obtain ⟨w1, w2⟩ := scR_w _ _ _ w p e
    have b := FM_bad F (by omega) (by omega)
    exact bX11_score_115 (C.iv i1) ⟨fun _ => go127b g w p e C F, fun _ => mX11_wrong_bad (C.iv i1) b (go127b g w p e C F)⟩
  have go71b : ∀ (g : mH) (w p : Nat), scR z n 401 s0P (rn cB z n 0) = .inl (w, p) → Cj sfM g1 g → FM g w p → Vw G jX11_score 71 [some (.ref 83), none] [] g Q := by
    intro g w p e C F
    obtain ⟨w1, w2⟩ := scR_w _ _ _ w p e
    have b := FM_bad F (by omega) (by omega)
    exact bX11_score_71 (C.iv i1) ⟨fun _ => go115b g w p e C F, fun c => absurd (good_b.mpr b) c⟩
  have loop : ∀ (d : Nat) (s : PF) (f : Nat) (g : mH), n < f + d → f ≤ n → SI s f → SJ s → Cj scM g1 g → gI g 83 10 = 0 → TM z n f g → FOc s g → FOo s g → scR z n 401 s0P (rn cB z n 0) = scR z n d s f → Vw G jX11_score 71 [some (.ref 83), none] [] g Q := by
    intro d
    induction d with
    | zero => intro s f g h1 h2; omega
    | succ d ih =>
      intro s f g hd hf hI hJ C g10 t Fc Fo e
      have gi := C.iv i1
      have zg : ZM z g := ZM_c C (fun k => rfl) z1
      have l5 := hI.2.1
      have kc := kdT_c (z := z) (n := n) (f := f)
      have so0 : gI g 83 15 = 0 ↔ n ≤ f := by
        have sob : soT z n f ≤ 4 := by
          unfold soT
          split
          · split <;> omega
          · have := kc.2.2.2.2; omega
        rw [t.2.2.1, n_0, eq_n (by omega) (by omega), ← kc.1]
        unfold soT
        split
        · rename_i c
          rw [c]
          split <;> omega
        · exact Iff.rfl
      refine bX11_score_71 gi ⟨fun c => absurd g10 (good_b.mp c), fun _ => ?_⟩
      rw [so0, show (41 : Int32) = iI 41 from by decide, sign_Mb zg (by omega) t (.inr (.inr (.inr rfl))), Fo.1, n_0, le_n (by omega) (by omega), ← n_0]
      refine ⟨fun c => ?_, fun c => ?_⟩
      · -- the end
        have e' : scR z n 401 s0P (rn cB z n 0) = (if s.2.2 = [] then .inr s else .inl (1, f)) := by
          rw [e]
          unfold scR
          rw [if_pos c]
        refine bX11_score_115 gi ?_
        rw [Fo.1, n_0, le_n (by omega) (by omega)]
        refine ⟨fun c2 => ?_, fun c2 => ?_⟩
        · have hnil := List.eq_nil_of_length_eq_zero (show s.2.2.length = 0 by omega)
          rw [if_pos hnil] at e'
          refine bX11_score_127 gi ⟨fun _ => ?_, fun c => absurd g10 (good_b.mp c)⟩
          have qb := kpV_b (R := s.2.1) s.1
          have sb : s.1 ≤ 100 := by have := hI.1; omega
          rw [n_0]
          refine mX11_puts (z := z) (n := n) (q := kpV s.2.1 s.1) (xs := []) gi ⟨Fc.1, fun j hj => absurd hj (by show ¬ j < 0; omega)⟩ (by show kpV s.2.1 s.1 + 0 < 600; omega) (fun g2 C2 P2 w2 _ _ => ?_)
          have D2 := C.tr (pu_sc C2)
          have i2 := D2.iv i1
          refine bX11_score_154 i2 (mX11_copies (n := 600) i2 rfl rfl (by omega) (by omega) (fun g3 S3 E3 => ?_))
          have D3 : Cj snS h g3 := (C1.tr (scn D2)).tr ((Ce.sm (S := snS) S3 (fun o k ho => by unfold snS at ho; simp at ho ⊢; omega)).cj)
          refine bX11_score_166 (D3.iv hi) (ky' g3 s e' D3 ⟨fun i j hil hjl => ?_, ?_⟩ ?_ ?_ ?_ ?_)
          · have ib := kpV_lt (R := s.2.1) hil
            rw [E3 _ (by omega), C2.2.2.2 105 _ (by unfold puS smS; simp; omega)]
            exact Fc.2 i j hil hjl (fun x => by rw [hnil] at x; exact absurd x.1 (by simp))
          · rw [E3 _ (by omega)]
            have := P2.2 0 (by show 0 < 1; omega)
            rw [Nat.add_zero] at this
            rw [this]
            exact n_0.symm
          · rw [S3.gI (o := 83) rfl, D2.2.2.2 83 0 rfl]; exact p0
          · rw [S3.gI (o := 83) rfl, D2.2.2.2 83 9 rfl]; exact p9
          · rw [S3.gI (o := 83) rfl, D2.2.2.2 83 11 rfl]; exact p11
          · rw [S3.gI (o := 90) rfl, D2.2.2.2 90 0 rfl, pw 90 0 (by omega)]
        · rw [if_neg (fun x => c2 (by rw [x]; exact Nat.le_refl 0))] at e'
          rw [n_1]
          refine mX11_wrong gi g10 t.2.2.2.1 (fun g2 C2 F2 => ?_)
          exact go127b g2 1 f e' ((scM_sf C).tr (nm_sf (wg_nm C2))) F2
      · have e' : scR z n 401 s0P (rn cB z n 0) = bnd (rPie z n s f) fun r => scR z n d r.1 r.2 := by
          rw [e]
          conv => lhs; unfold scR
          rw [if_neg c]
        have back : ∀ (Q' : mO → mH → Prop), (∀ g2, Iv g2 → Vw G jX11_score 71 [some (.ref 83), none] [] g2 Q → Q' (.inl none) g2) → rdN g Q' z n (rPie z n s f) := by
          intro Q' hQ
          refine ⟨fun g2 a ra C2 q2 t2 Fc2 Fo2 => ?_, fun g2 w p ra C2 F2 => ?_⟩
          · have := rPie_r hI (by omega) ra
            refine hQ g2 (C2.iv gi) (ih a.1 a.2 g2 (by omega) this.2.2 this.1 (rPie_j hI hJ ra) (C.tr C2) q2 t2 Fc2 Fo2 ?_)
            rw [e', ra]
            rfl
          · refine hQ g2 (C2.iv gi) (go71b g2 w p ?_ ((scM_sf C).tr C2) F2)
            rw [e', ra]
            rfl
        have act : rPie z n s f = rAct z n s f → Vw G jX11_score 108 [some (.ref 83), none] [] g Q := fun ep => by
          have b := back (Aft G jX11_score 109 [some (.ref 83), none] [] Q) (fun g2 i2 y => bX11_score_112 i2 y)
          rw [ep] at b
          exact bX11_score_108 gi (mX11_act gi zg (by omega) (by omega) t g10 Fc Fo hI hJ b)
        cases hO : s.2.2 with
        | nil =>
          refine ⟨fun x => act (by unfold rPie; rw [hO]), fun x => ⟨fun _ => act (by unfold rPie; rw [hO]), fun y => absurd (Nat.le_refl 0) y⟩⟩
        | cons o O =>
          refine ⟨fun x => ?_, fun x => ⟨fun y => absurd y (by show ¬ O.length + 1 ≤ 0; omega), fun _ => ?_⟩⟩
          · rw [bL_0] at x
            exact act (by unfold rPie; rw [hO]; simp only; rw [if_neg (by rw [x]; decide)])
          · rw [bL_1] at x
            have b := back (Aft G jX11_score 102 [some (.ref 83), none] [] Q) (fun g2 i2 y => bX11_score_105 i2 y)
            rw [show rPie z n s f = rClo z n s o O f from by unfold rPie; rw [hO]; simp only; rw [if_pos x]] at b
            exact mX11_closes gi zg (by omega) (by omega) t g10 Fc Fo hI hJ hO b
  refine mX11_steps i1 z1 (by omega) (Nat.zero_le n) p13 p14 (fun g2 C2 t2 => ?_)
  have q2 : ∀ k, smS 83 k = false → gI g2 83 k = gI g1 83 k := fun k hk => C2.2.2.2 83 k hk
  refine loop 401 s0P (rn cB z n 0) g2 (by omega) fb.2.1 ⟨by show 4 * (0 + 0) ≤ _; omega, by decide, fun o ho => by cases ho⟩ ⟨fun i hi => absurd hi (by show ¬ i < 0; omega), fun o ho => by cases ho⟩ (sm_sc C2) (by rw [q2 10 rfl]; exact p10) t2 ⟨?_, fun i j hi => absurd hi (by show ¬ i < 0; omega)⟩ ⟨?_, trivial⟩ rfl
  · rw [q2 47 rfl]; exact p47
  · rw [q2 48 rfl]; exact p48
end SCM5
