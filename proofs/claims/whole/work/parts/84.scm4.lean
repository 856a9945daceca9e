section SCM4
variable {G : GX} {h : mH} {Q : mO → mH → Prop} {z : Nat → Int} {n : Nat}
theorem mX11_act {f : Nat} {s : PF} (hi : Iv h) (hz : ZM z h) (hn4 : n ≤ 400) (hf : f < n) (ht : TM z n f h) (hg : gI h 83 10 = 0) (hc : FOc s h) (ho : FOo s h) (hI : SI s f) (hJ : SJ s) (k : rdN h Q z n (rAct z n s f)) : WM G jX11_act [.ref 83] h Q := by
  obtain ⟨j1, j2, j3⟩ := id hI
  have s100 : s.1 < 100 := by omega
  have qb := kpV_b (R := s.2.1) s.1
  have go59b : ∀ (w p : Nat) (v1 : Int32) (g : mH), rAct z n s f = .inl (w, p) → w = 1 ∨ w = 2 → Cj sfM h g → FM g w p → Vw G jX11_act 59 [some (.ref 83), some (.int v1), none] [] g Q := by
    intro w p v1 g e hw C F
    have b := FM_bad F (by omega) (by omega)
    exact bX11_act_59 (C.iv hi) ⟨fun c => absurd (good_b.mpr b) c, fun _ => k.2 g w p e C F⟩
  have go59 : ∀ v : Nat, vbT z n f = some v → ¬ (5 ≤ v ∧ 5 ≤ s.2.2.length) → Vw G jX11_act 59 [some (.ref 83), some (.int (iI ((6 + v : Nat) : Int))), none] [] h Q := by
    intro v hv hd
    obtain ⟨v6, fn, fl, an⟩ := vbT_b hv
    have eA : rAct z n s f = rAc2 z n v (adS s v) (adT z n f) := by
      unfold rAct
      rw [hv]
      simp only
      rw [if_neg hd]
    have kB := k.2
    have kA := k.1
    have facts := fun r hr => rAct_f (z := z) (n := n) (r := r) hI hr
    refine bX11_act_59 hi ⟨fun _ => ?_, fun c => absurd hg (good_b.mp c)⟩
    refine mX11_stp hi hz hn4 (by omega) ht (fun g1 C1 t1 => ?_)
    have i1 := C1.iv hi
    have P1 : PT (kpV s.2.1 s.1) [] g1 := ⟨by rw [C1.2.2.2 83 47 rfl]; exact hc.1, fun j hj => absurd hj (by show ¬ j < 0; omega)⟩
    refine bX11_act_71 i1 (mX11_puts (z := z) (n := n) i1 P1 (by show kpV s.2.1 s.1 + 0 < 600; omega) (fun g2 C2 P2 w2 T2 _ => ?_))
    have D2 : Cj (puS (kpV s.2.1 s.1)) h g2 := (sm_pu C1).tr C2
    have E2 : Cj scM h g2 := pu_sc D2
    have i2 := D2.iv hi
    have z2 : ZM z g2 := ZM_c D2 (fun k => rfl) hz
    have t2 := T2 _ t1
    have q2 : gI g2 83 10 = 0 := by rw [w2 83 (by omega) 10 (by omega), sm_10 C1]; exact hg
    have P2' : PT (kpV s.2.1 s.1) [iI ((6 + v : Nat) : Int)] g2 := P2
    have cd0 : ∀ {R : Nat → Nat → Int}, R 0 s.1 = v → iI ((6 + v : Nat) : Int) = iI (cdV R s.1 0) := fun e => by
      unfold cdV
      rw [if_pos rfl, e, if_pos (by omega)]
      congr 1
      omega
    -- after the last piece of a step without a block
    have fin : ∀ (a : PF × Nat) (g : mH) (xs : List Int32), rAct z n s f = .inr a → v < 5 → Cj (puS (kpV s.2.1 s.1)) h g → gI g 83 10 = 0 → TM z n a.2 g → PT (kpV s.2.1 s.1) xs g → xs.length = lnV (v : Int) → (∀ j, j < xs.length → xs.getD j 0 = iI (cdV a.1.2.1 s.1 j)) → Vw G jX11_act 225 [none, none, none] [] g Q := by
      intro a g xs ea v5 D g10 t P hl hn
      obtain ⟨v', v6', e1, e2, e3, e4, e5⟩ := facts a ea
      have vv : (v' : Int) = v := by
        obtain ⟨_, e2', _⟩ := rAc2_r v6 an (eA.symm.trans ea)
        rw [← e3, e2', adS_n]
      have vv' : v' = v := by omega
      subst vv'
      rw [if_neg (by omega)] at e5
      refine bX11_act_225 (D.iv hi) (kA g a ea (pu_sc D) g10 t (FO_fin hc hJ D P e1 e2 (fun i _ hm => by rw [e5]; exact hm) (by rw [e3]; exact hl) (fun j hj _ => hn j hj)) (FOo_k ho hJ D e2 e5))
    have bad225 : ∀ (w p : Nat) (g : mH), rAct z n s f = .inl (w, p) → Cj sfM h g → FM g w p → Vw G jX11_act 225 [none, none, none] [] g Q := fun w p g e C F => bX11_act_225 (C.iv hi) (kB g w p e C F)
    -- opening a block
    have opn : ∀ (b : PF × Nat) (g g' : mH) (xs : List Int32) (v1 v2 : Int32) (Q' : mO → mH → Prop), (∀ g3, Iv g3 → Vw G jX11_act 225 [none, none, none] [] g3 Q → Q' (.inl none) g3) → rAct z n s f = rOpn z n b.1 b.2 → 5 ≤ v → b.2 ≤ n → Cj (puS (kpV s.2.1 s.1)) h g → gI g 83 10 = 0 → TM z n b.2 g → PT (kpV s.2.1 s.1) xs g → xs.length = lnV (v : Int) → b.1.1 = s.1 + 1 → (∀ j, j < xs.length → ¬ isJ (v : Int) j → xs.getD j 0 = iI (cdV b.1.2.1 s.1 j)) → v1 = iI (koV (v : Int)) → v2 = iI ((kpV s.2.1 s.1 + joV (v : Int) : Nat) : Int) → WM G jX11_opens [.ref 83, .int v1, .int v2] g Q' := by
      intro b g g' xs v1 v2 Q' hQ ea v5 bn D g10 t P hl eb hn hv1 hv2
      have d5 : s.2.2.length < 5 := by omega
      refine mX11_opens (D.iv hi) (ZM_c D (fun k => rfl) hz) hn4 bn t g10 (d := s.2.2.length) (by rw [D.2.2.2 83 48 rfl]; exact ho.1) d5 (fun g3 hs C3 t3 q3 h48 h106 h107 => ?_) (fun g3 hs C3 F3 => ?_)
      · have er : rOpn z n b.1 b.2 = .inr ((b.1.1, b.1.2.1, (b.1.1 - 1) :: b.1.2.2), adT z n b.2) := by unfold rOpn; rw [if_pos hs]
        rw [er] at ea
        obtain ⟨v', v6', e1, e2, e3, e4, e5⟩ := facts _ ea
        have vv : (v' : Int) = v := by
          obtain ⟨_, e2', _⟩ := rAc2_r v6 an (eA.symm.trans ea)
          rw [← e3, e2', adS_n]
        have vv' : v' = v := by omega
        subst vv'
        rw [if_pos (by omega)] at e5
        have hm : s.1 ∈ s.1 :: s.2.2 := List.mem_cons_self
        have Fc : FOc (b.1.1, b.1.2.1, (b.1.1 - 1) :: b.1.2.2) g := FO_fin hc hJ D P e1 e2 (fun i _ hm => by rw [e5]; exact List.mem_cons_of_mem _ hm) (by rw [e3]; exact hl) (fun j hj hx => hn j hj (fun y => hx ⟨by rw [e5]; exact hm, by rw [e3]; exact y⟩))
        refine hQ g3 (C3.iv (D.iv hi)) (bX11_act_225 (C3.iv (D.iv hi)) (kA g3 _ ea ((pu_sc D).tr (op_sc C3)) q3 t3 (FOc_c C3 (fun k => rfl) rfl Fc) (FOo_o ho hJ D e2 e5 C3 h48 (by rw [h106, hv1, e3]) (by rw [h107, hv2, e3]))))
      · have er : rOpn z n b.1 b.2 = .inl (1, b.2) := by unfold rOpn; rw [if_neg (by rw [hs]; decide)]
        exact hQ g3 (C3.iv (D.iv hi)) (bad225 1 b.2 g3 (ea.trans er) ((scM_sf (pu_sc D)).tr C3) F3)
    unfold rAc2 at eA
    have vq : ∀ c : Nat, c ≤ 100 → (iI ((6 + v : Nat) : Int) = iI ((c : Nat) : Int) ↔ 6 + v = c) := fun c hc => eq_n (by omega) (by omega)
    have es : (adS s v).1 - 1 = s.1 := rfl
    -- draw, lift
    have go88 : v ≤ 1 → Vw G jX11_act 88 [some (.ref 83), none, none] [] g2 Q := fun v1 => by
      rw [if_pos v1] at eA
      refine bX11_act_88 i2 ?_
      rw [show (1 : Int32) = iI 1 from by decide, show (200 : Int32) = iI 200 from by decide]
      refine mX11_number i2 z2 hn4 an t2 q2 (by omega) (by omega) (by omega) (fun g3 hw C3 t3 q3 => ?_) (fun g3 v' hw C3 F3 => ?_)
      · have ea : rAct z n s f = .inr (((adS s v).1, upR (adS s v).2.1 1 s.1 (nuV z n (adT z n f)), s.2.2), adT z n (adT z n f)) := by rw [eA]; unfold rNm rNu; rw [if_pos hw]; rfl
        have D3 := D2.tr (sm_pu C3)
        refine bX11_act_97 (D3.iv hi) (mX11_puts (z := z) (n := n) (D3.iv hi) (PT_c C3 P2') (by show kpV s.2.1 s.1 + 1 < 600; omega) (fun g4 C4 P4 w4 T4 _ => bX11_act_100 ((D3.tr C4).iv hi) ?_))
        refine fin _ g4 _ ea (by omega) (D3.tr C4) (by rw [w4 83 (by omega) 10 (by omega)]; exact q3) (T4 _ t3) P4 ?_ (fun j hj => ?_)
        · unfold lnV; rw [if_pos (by omega)]; rfl
        · simp only
          have r0 : upR (adS s v).2.1 1 s.1 (nuV z n (adT z n f)) 0 s.1 = v := by rw [upR_na (by omega), adS_n]
          rcases (show j = 0 ∨ j = 1 from by have : j < 2 := hj; omega) with rfl | rfl
          · exact cd0 r0
          · unfold cdV
            rw [if_neg (by omega), r0, if_pos (by omega), upR_eq]
            rfl
      · have ea : rAct z n s f = .inl (nuW z n (adT z n f) 1 200, adT z n f) := by rw [eA]; unfold rNm rNu; rw [if_neg hw]; rfl
        have D3 := (scM_sf E2).tr (nm_sf C3)
        refine bX11_act_97 (D3.iv hi) (mX11_putsB (t := kpV s.2.1 s.1 + 1) (D3.iv hi) (by rw [C3.2.2.2 83 47 rfl]; exact P2'.1) (by omega) F3 (fun g4 C4 F4 t4 => bX11_act_100 ((D3.tr C4).iv hi) (bad225 _ _ g4 ea (D3.tr C4) F4)))
    -- penny, size
    have go115 : v = 2 ∨ v = 3 → Vw G jX11_act 115 [some (.ref 83), some (.int (iI ((6 + v : Nat) : Int))), none] [] g2 Q := fun v23 => by
      have eC : rAct z n s f = rChg z n (adS s v) (adT z n f) (if v = 2 then 9 else 90) := by
        rw [eA, if_neg (by omega)]
        rcases v23 with e | e
        · rw [if_pos e, if_pos e]
        · rw [if_neg (by omega), if_pos e, if_neg (by omega)]
      refine bX11_act_115 i2 ?_
      rw [show (0 : Int32) = iI 0 from by decide, show (3 : Int32) = iI 3 from by decide]
      have m9 : ∀ {g : mH} {Q' : mO → mH → Prop}, (WM G jX11_signed [.ref 83, .int (iI (if v = 2 then 9 else 90))] g Q') → (¬ iI ((6 + v : Nat) : Int) = 8 → WM G jX11_signed [.ref 83, .int 90] g Q') ∧ (iI ((6 + v : Nat) : Int) = 8 → WM G jX11_signed [.ref 83, .int 9] g Q') := fun hw => by
        rw [n_8, vq 8 (by omega)]
        refine ⟨fun c => ?_, fun c => ?_⟩
        · rw [if_neg (by omega)] at hw
          exact hw
        · rw [if_pos (by omega)] at hw
          exact hw
      refine mX11_number i2 z2 hn4 an t2 q2 (by omega) (by omega) (by omega) (fun g3 hw C3 t3 q3 => ?_) (fun g3 v' hw C3 F3 => ?_)
      · have D3 := D2.tr (sm_pu C3)
        have aa := adT_b (z := z) (n := n) (f := adT z n f) an
        have rb : rNm z n (adS s v) (adT z n f) 0 3 = .inr (((adS s v).1, upR (adS s v).2.1 1 s.1 (nuV z n (adT z n f)), s.2.2), adT z n (adT z n f)) := by unfold rNm rNu; rw [if_pos hw]; rfl
        unfold rChg at eC
        rw [rb] at eC
        refine bX11_act_122 (D3.iv hi) (mX11_puts (z := z) (n := n) (D3.iv hi) (PT_c C3 P2') (by show kpV s.2.1 s.1 + 1 < 600; omega) (fun g4 C4 P4 w4 T4 _ => ?_))
        have D4 := D3.tr C4
        have q4 : gI g4 83 10 = 0 := by rw [w4 83 (by omega) 10 (by omega)]; exact q3
        refine bX11_act_125 (D4.iv hi) (m9 (mX11_signed (D4.iv hi) (ZM_c D4 (fun k => rfl) hz) hn4 aa.2 (T4 _ t3) q4 (by split <;> omega) (fun g5 hw5 C5 t5 q5 => ?_) (fun g5 v' hw5 C5 F5 => ?_)))
        · have D5 := D4.tr (sm_pu C5)
          have ea : rAct z n s f = .inr (((adS s v).1, upR (upR (adS s v).2.1 1 s.1 (nuV z n (adT z n f))) 2 s.1 (snV z n (adT z n (adT z n f))), s.2.2), adT z n (snP z n (adT z n (adT z n f)))) := by rw [eC]; simp only [bnd]; unfold rSn; rw [if_pos hw5]; rfl
          refine bX11_act_143 (D5.iv hi) (mX11_puts (z := z) (n := n) (D5.iv hi) (PT_c C5 P4) (by show kpV s.2.1 s.1 + 2 < 600; omega) (fun g6 C6 P6 w6 T6 _ => bX11_act_146 ((D5.tr C6).iv hi) ?_))
          refine fin _ g6 _ ea (by omega) (D5.tr C6) (by rw [w6 83 (by omega) 10 (by omega)]; exact q5) (T6 _ t5) P6 ?_ (fun j hj => ?_)
          · unfold lnV; rw [if_neg (by omega), if_pos (by omega)]; rfl
          · simp only
            generalize hR : upR (upR (adS s v).2.1 1 s.1 (nuV z n (adT z n f))) 2 s.1 (snV z n (adT z n (adT z n f))) = R'
            have r0 : R' 0 s.1 = v := by rw [← hR, upR_na (by omega), upR_na (by omega), adS_n]
            have r1 : R' 1 s.1 = nuV z n (adT z n f) := by rw [← hR, upR_na (by omega), upR_eq]
            have r2 : R' 2 s.1 = snV z n (adT z n (adT z n f)) := by rw [← hR, upR_eq]
            rcases (show j = 0 ∨ j = 1 ∨ j = 2 from by have : j < 3 := hj; omega) with rfl | rfl | rfl
            · exact cd0 r0
            · unfold cdV
              rw [if_neg (by omega), r0, if_neg (by omega), if_pos (by omega), if_pos rfl, r1]
              rfl
            · unfold cdV
              rw [if_neg (by omega), r0, if_neg (by omega), if_pos (by omega), if_neg (by omega), r2]
              rfl
        · have ea : rAct z n s f = .inl (nuW z n (snP z n (adT z n (adT z n f))) 0 (if v = 2 then 9 else 90), snP z n (adT z n (adT z n f))) := by rw [eC]; simp only [bnd]; unfold rSn; rw [if_neg hw5]
          have D5 := (scM_sf (pu_sc D4)).tr (nm_sf C5)
          refine bX11_act_143 (D5.iv hi) (mX11_putsB (t := kpV s.2.1 s.1 + 2) (D5.iv hi) (by rw [C5.2.2.2 83 47 rfl]; exact P4.1) (by omega) F5 (fun g6 C6 F6 t6 => bX11_act_146 ((D5.tr C6).iv hi) (bad225 _ _ g6 ea (D5.tr C6) F6)))
      · have ea : rAct z n s f = .inl (nuW z n (adT z n f) 0 3, adT z n f) := by rw [eC]; unfold rChg rNm rNu; rw [if_neg hw]; rfl
        have D3 := (scM_sf E2).tr (nm_sf C3)
        refine bX11_act_122 (D3.iv hi) (mX11_putsB (t := kpV s.2.1 s.1 + 1) (D3.iv hi) (by rw [C3.2.2.2 83 47 rfl]; exact P2'.1) (by omega) F3 (fun g4 C4 F4 t4 => ?_))
        have D4 := D3.tr C4
        have b4 := FM_bad F4 hw (by have := nuW_b (z := z) (n := n) (f := adT z n f) (lo := 0) (hi := 3); omega)
        refine bX11_act_125 (D4.iv hi) (m9 (mX11_signed_bad (D4.iv hi) b4 ?_))
        refine bX11_act_143 (D4.iv hi) (mX11_putsB (D4.iv hi) t4 (by omega) F4 (fun g6 C6 F6 t6 => bX11_act_146 ((D4.tr C6).iv hi) (bad225 _ _ g6 ea (D4.tr C6) F6)))
    refine bX11_act_76 i2 ?_
    rw [n_6, vq 6 (by omega), n_7, vq 7 (by omega), n_8, vq 8 (by omega), n_9, vq 9 (by omega), show (11 : Int32) = iI ((11 : Nat) : Int) from by decide, vq 11 (by omega), n_12, vq 12 (by omega)]
    refine ⟨fun c6 => go88 (by omega), fun c6 => ⟨fun c7 => ⟨fun c8 => go115 (by omega), fun c8 => ⟨fun c9 => ⟨fun c11 => ⟨fun c12 => ?_, fun c12 => ?_⟩, fun c11 => ?_⟩, fun c9 => go115 (by omega)⟩⟩, fun c7 => go88 (by omega)⟩⟩
    · -- turn
      have v4 : v = 4 := by omega
      rw [if_neg (by omega), if_neg (by omega), if_neg (by omega), if_pos v4] at eA
      refine fin _ g2 _ eA (by omega) D2 q2 t2 P2' ?_ (fun j hj => ?_)
      · rw [v4]; rfl
      · have : j = 0 := by have : j < 1 := hj; omega
        subst this
        exact cd0 adS_n
    · -- when
      have v6e : v = 6 := by omega
      rw [if_neg (by omega), if_neg (by omega), if_neg (by omega), if_neg (by omega), if_neg (by omega)] at eA
      refine mX11_test (s := adS s v) i2 z2 hn4 an t2 q2 P2' (by omega) (fun g3 a ra C3 q3 t3 P3 => ?_) (fun g3 w p t ra C3 F3 tb g47 => ?_)
      · rw [ra] at eA
        obtain ⟨x1, w1, ea1, _, _, _, _, l1, l2⟩ := rTst_r an ra
        have D3 := D2.tr C3
        rw [show (adS s v).1 - 1 = s.1 from rfl] at P3
        have r0 : a.1.2.1 0 s.1 = 6 := by rw [ea1, show (adS s v).1 - 1 = s.1 from rfl]; simp only; rw [upR_na (by omega), upR_na (by omega), adS_n, v6e]; rfl
        refine bX11_act_201 (D3.iv hi) (mX11_puts (z := z) (n := n) (D3.iv hi) P3 (by show kpV s.2.1 s.1 + 4 < 600; omega) (fun g4 C4 P4 w4 T4 _ => ?_))
        have D4 := D3.tr C4
        have q4 : gI g4 83 10 = 0 := by rw [w4 83 (by omega) 10 (by omega)]; exact q3
        refine bX11_act_206 (D4.iv hi) ⟨fun c => absurd q4 (good_b.mp c), fun _ => ?_⟩
        refine opn a g4 g4 _ _ _ _ (fun g3 _ y => y) eA (by omega) l2 D4 q4 (T4 _ t3) P4 ?_ (by rw [ea1]; rfl) (fun j hj hx => ?_) ?_ ?_
        · rw [v6e]; rfl
        · have j5 : j < 5 := hj
          unfold cdV
          rw [r0]
          rcases (show j = 0 ∨ j = 1 ∨ j = 2 ∨ j = 3 ∨ j = 4 from by omega) with rfl | rfl | rfl | rfl | rfl
          · rw [v6e]; rfl
          · rfl
          · rfl
          · rfl
          · exact absurd (by rw [v6e]; exact .inr (.inl ⟨rfl, rfl⟩)) hx
        · rw [v6e]; rfl
        · rw [P4.1, n_1, su_n (by show 1 ≤ kpV s.2.1 s.1 + 5; omega), v6e]; rfl
      · rw [ra] at eA
        have D3 := (scM_sf E2).tr C3
        have rw2 := kOk_tst w p ra
        refine bX11_act_201 (D3.iv hi) (mX11_putsB (D3.iv hi) g47 (by omega) F3 (fun g4 C4 F4 t4 => ?_))
        have D4 := D3.tr C4
        exact bX11_act_206 (D4.iv hi) ⟨fun _ => bad225 w p g4 eA D4 F4, fun c => absurd (good_b.mpr (FM_bad F4 (by omega) (by omega))) c⟩
    · -- repeat
      have v5e : v = 5 := by omega
      rw [if_neg (by omega), if_neg (by omega), if_neg (by omega), if_neg (by omega), if_pos v5e] at eA
      rw [show (0 : Int32) = iI 0 from by decide, show (20 : Int32) = iI 20 from by decide]
      refine mX11_number i2 z2 hn4 an t2 q2 (by omega) (by omega) (by omega) (fun g3 hw C3 t3 q3 => ?_) (fun g3 v' hw C3 F3 => ?_)
      · have D3 := D2.tr (sm_pu C3)
        have rb : rNm z n (adS s v) (adT z n f) 0 20 = .inr (((adS s v).1, upR (adS s v).2.1 1 s.1 (nuV z n (adT z n f)), s.2.2), adT z n (adT z n f)) := by unfold rNm rNu; rw [if_pos hw]; rfl
        have aa := adT_b (z := z) (n := n) (f := adT z n f) an
        rw [rb] at eA
        have eA' : rAct z n s f = rOpn z n ((adS s v).1, upR (adS s v).2.1 1 s.1 (nuV z n (adT z n f)), s.2.2) (adT z n (adT z n f)) := eA
        refine bX11_act_163 (D3.iv hi) (mX11_puts (z := z) (n := n) (D3.iv hi) (PT_c C3 P2') (by show kpV s.2.1 s.1 + 1 < 600; omega) (fun g4 C4 P4 w4 T4 _ => ?_))
        have D4 := D3.tr C4
        refine bX11_act_166 (D4.iv hi) (mX11_puts (z := z) (n := n) (D4.iv hi) P4 (by show kpV s.2.1 s.1 + 2 < 600; omega) (fun g5 C5 P5 w5 T5 _ => ?_))
        have D5 := D4.tr C5
        have q5 : gI g5 83 10 = 0 := by rw [w5 83 (by omega) 10 (by omega), w4 83 (by omega) 10 (by omega)]; exact q3
        refine bX11_act_171 (D5.iv hi) ⟨fun c => absurd q5 (good_b.mp c), fun _ => ?_⟩
        refine opn (((adS s v).1, upR (adS s v).2.1 1 s.1 (nuV z n (adT z n f)), s.2.2), adT z n (adT z n f)) g5 g5 _ _ _ _ (fun g3 i3 y => bX11_act_188 i3 y) eA' (by omega) aa.2 D5 q5 (T5 _ (T4 _ t3)) P5 ?_ rfl (fun j hj hx => ?_) ?_ ?_
        · rw [v5e]; rfl
        · have j3 : j < 3 := hj
          simp only
          generalize hR : upR (adS s v).2.1 1 s.1 (nuV z n (adT z n f)) = R'
          have r0 : R' 0 s.1 = 5 := by rw [← hR, upR_na (by omega), adS_n, v5e]; rfl
          have r1 : R' 1 s.1 = nuV z n (adT z n f) := by rw [← hR, upR_eq]
          unfold cdV
          rw [r0, r1]
          rcases (show j = 0 ∨ j = 1 ∨ j = 2 from by omega) with rfl | rfl | rfl
          · rw [v5e]; rfl
          · rfl
          · exact absurd (by rw [v5e]; exact .inl ⟨rfl, rfl⟩) hx
        · rw [v5e]; rfl
        · rw [P5.1, v5e]; rfl
      · have ea : rAct z n s f = .inl (nuW z n (adT z n f) 0 20, adT z n f) := by rw [eA]; unfold rNm rNu; rw [if_neg hw]; rfl
        have D3 := (scM_sf E2).tr (nm_sf C3)
        refine bX11_act_163 (D3.iv hi) (mX11_putsB (t := kpV s.2.1 s.1 + 1) (D3.iv hi) (by rw [C3.2.2.2 83 47 rfl]; exact P2'.1) (by omega) F3 (fun g4 C4 F4 t4 => ?_))
        have D4 := D3.tr C4
        refine bX11_act_166 (D4.iv hi) (mX11_putsB (D4.iv hi) t4 (by omega) F4 (fun g5 C5 F5 t5 => ?_))
        have D5 := D4.tr C5
        have nb := nuW_b (z := z) (n := n) (f := adT z n f) (lo := 0) (hi := 20)
        exact bX11_act_171 (D5.iv hi) ⟨fun _ => bad225 _ _ g5 ea D5 F5, fun c => absurd (good_b.mpr (FM_bad F5 hw (by omega))) c⟩
  -- which act
  have loop : ∀ (d j : Nat), j + d = 13 → 6 ≤ j → Vw G jX11_act 5 [some (.ref 83), some (.int (iI (wmV (vbT z n f) 6 j))), some (.int (iI (j : Nat)))] [] h Q := by
    intro d
    induction d with
    | zero =>
      intro j hj _
      have : j = 13 := by omega
      subst this
      refine bX11_act_5 hi ⟨fun _ => ?_, fun c => absurd (by decide) c⟩
      cases hv : vbT z n f with
      | none =>
        have em : iI (wmV none 6 13) = (-1 : Int32) := by decide
        rw [em]
        refine ⟨fun c => absurd rfl c, fun _ => ?_⟩
        rw [n_1]
        refine mX11_wrong hi hg ht.2.2.2.1 (fun g2 C2 F2 => ?_)
        have D2 := nm_sf (wg_nm C2)
        refine bX11_act_37 (D2.iv hi) (go59b 1 f _ g2 ?_ (by omega) D2 F2)
        unfold rAct
        rw [hv]
      | some v =>
        obtain ⟨v6, fn, fl, an⟩ := vbT_b hv
        have em : wmV (some v) 6 13 = ((6 + v : Nat) : Int) := by unfold wmV; simp only; rw [if_pos (by omega)]
        rw [em, show (11 : Int32) = iI ((11 : Nat) : Int) from by decide, lt_n (by omega) (by omega), ho.1, n_5, eq_n (by omega) (by omega)]
        refine ⟨fun _ => ⟨fun c => go59 v hv (by omega), fun c => ⟨fun c2 => go59 v hv (by omega), fun c2 => ?_⟩⟩, fun c => absurd c ?_⟩
        · rw [n_2]
          refine mX11_wrong hi hg ht.2.2.2.1 (fun g2 C2 F2 => ?_)
          refine go59b 2 f _ g2 ?_ (by omega) (nm_sf (wg_nm C2)) F2
          unfold rAct
          rw [hv]
          simp only
          rw [if_pos (by omega)]
        · rw [m1_iI, iI_eq ⟨by omega, by omega⟩ ⟨by decide, by decide⟩]; omega
    | succ d ih =>
      intro j hj j6
      refine bX11_act_5 hi ⟨fun c => ?_, fun _ => ?_⟩
      · rw [n_12, lt_n (by omega) (by omega)] at c
        omega
      · refine mX11_is hi (by omega) hn4 ht (show j < 19 by omega) ?_
        have es := vbT_s (z := z) (n := n) (f := f) (v := j - 6) (by omega)
        rw [show 6 + (j - 6) = j from by omega] at es
        refine bX11_act_16 hi ⟨fun c => ?_, fun c => ?_⟩
        · rw [bL_0] at c
          refine bX11_act_21 hi ?_
          rw [n_1, ad_n, ← wmV_f (k := j) (fun x => by have := es.mpr x; rw [c] at this; cases this) j6]
          exact ih (j + 1) (by omega) (by omega)
        · rw [bL_1] at c
          refine bX11_act_21 hi ?_
          rw [n_1, ad_n, ← wmV_t (k := j) (es.mp c) j6]
          exact ih (j + 1) (by omega) (by omega)
  refine eX11_act hi ?_
  have e0 : (-1 : Int32) = iI (wmV (vbT z n f) 6 6) := by
    unfold wmV
    cases vbT z n f with
    | none => decide
    | some v => simp only; rw [if_neg (by omega)]; decide
  rw [e0, n_6]
  exact loop 7 6 (by omega) (by omega)
end SCM4
