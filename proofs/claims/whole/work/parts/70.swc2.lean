section SWC2
variable {G : GX} {h : mH} {Q : mO → mH → Prop}
theorem mX8_readCart {z : Nat → Int} {n f : Nat} {s : SF} (hi : Iv h) (hz : ZC z h) (hn4 : n ≤ 400) (hf : f ≤ n) (ht : TC z n f h) (hs4 : s.2.1 ≤ 4) (hF : FC s h)
    (k : rdC h Q (rCar z n s f) (fun a g => TC z n a.2 g ∧ FC a.1 g)) : WM G jX8_readCart [.ref 1, .ref 13] h Q := by
  have k13 : kd 13 = (2, 11) := rfl
  obtain ⟨a1, a2, a3, a4, a5⟩ := id hF
  unfold rCar at k
  refine eX8_readCart hi k13 ?_
  rw [a2, n_4, lt_n (by omega) (by omega)]
  refine ⟨fun c => ?_, fun c => ?_⟩
  · rw [if_neg (by omega)] at k
    refine mX9_adv hi hz hn4 hf ht (fun g1 C1' t1 => ?_)
    have C1 := ta_ts C1'
    have i1 := C1.iv hi
    have z1 := ZC_c C1 ts_2 hz
    have l1 := adT_b (z := z) (n := n) (f := f) hf
    refine bX8_readCart_20 i1 k13 ?_
    rw [show (0 : Int32) = iI 0 from by decide, show (999 : Int32) = iI 999 from by decide]
    refine mX8_readInto i1 z1 hn4 l1.2 t1 (n3 := 4) rfl rfl c (by omega) (by omega) (by omega) (by omega) ⟨fun g4 a ra C4 o4 => ?_, fun g4 w p ra C4 g42 g43 => ?_⟩
    · rw [ra] at k
      obtain ⟨e4, D4, t4, rfl⟩ := o4
      obtain ⟨_, _, ea, _⟩ := rNu_r (v := a.1) (f' := a.2) ra
      have l3 : a.2 ≤ n := by rw [ea]; exact (adT_b l1.2).2
      have i4 := C4.iv i1
      have z4 := ZC_c C4 sy_2 z1
      have t4' := TC_p (o := 13 + 5) (k := s.2.1) (v := iI a.1) (by omega) t4
      refine bX8_readCart_33 i4 k13 ⟨fun _ => ?_, fun c2 => absurd c2 (by decide)⟩
      rw [n_0]
      refine bX8_readCart_40 i4 k13 ⟨fun z => absurd z (by decide), fun _ => ?_⟩
      rw [show (20 : Int32) = iI 20 from by decide]
      refine mX9_takeSigned i4 z4 hn4 l3 t4' ⟨by omega, by omega⟩ (fun g5 hw5 C5 t5 v5 => ?_) (fun g5 hw5 C5 g52 g53 => ?_)
      · have i5 := C5.iv i4
        have rb : rSn z n a.2 20 = .inr (snV z n a.2, adT z n (snP z n a.2)) := by unfold rSn; rw [if_pos hw5]
        have k5 := k
        simp only [bnd] at k5
        rw [rb] at k5
        simp only at k5
        have l4 := snP_b (z := z) (n := n) (f := a.2) l3
        have l4' := adT_b (z := z) (n := n) (f := snP z n a.2) l4.2
        refine bX8_readCart_51 i5 k13 ⟨fun _ => ?_, fun c2 => absurd c2 (by decide)⟩
        rw [n_2, mu_n, ad_n, ix_n (by omega), v5, n_1, ad_n]
        refine ⟨in_n (by omega) (by omega), ?_⟩
        have C6 : Ce syS h (pI g5 (13 + 6) (2 * s.2.1 + 0) (iI (snV z n a.2))) := (((ts_sy C1).tr C4).tr (ts_sy C5)).pI rfl _
        have i6 := C6.iv hi
        have z6 := ZC_c C6 sy_2 hz
        have t6 := TC_p (o := 13 + 6) (k := 2 * s.2.1 + 0) (v := iI (snV z n a.2)) (by omega) t5
        refine bX8_readCart_40 i6 k13 ⟨fun z => absurd z (by decide), fun _ => ?_⟩
        rw [show (20 : Int32) = iI 20 from by decide]
        refine mX9_takeSigned i6 z6 hn4 l4'.2 t6 ⟨by omega, by omega⟩ (fun g7 hw7 C7 t7 v7 => ?_) (fun g7 hw7 C7 g72 g73 => ?_)
        · have i7 := C7.iv i6
          have rc : rSn z n (adT z n (snP z n a.2)) 20 = .inr (snV z n (adT z n (snP z n a.2)), adT z n (snP z n (adT z n (snP z n a.2)))) := by unfold rSn; rw [if_pos hw7]
          rw [rc] at k5
          simp only at k5
          refine bX8_readCart_51 i7 k13 ⟨fun _ => ?_, fun c2 => absurd c2 (by decide)⟩
          rw [n_2, mu_n, ad_n, ix_n (by omega), v7, n_1, ad_n]
          refine ⟨in_n (by omega) (by omega), ?_⟩
          have C8 : Ce syS h (pI g7 (13 + 6) (2 * s.2.1 + (0 + 1)) (iI (snV z n (adT z n (snP z n a.2))))) := (C6.tr (ts_sy C7)).pI rfl _
          have i8 := C8.iv hi
          have t8 := TC_p (o := 13 + 6) (k := 2 * s.2.1 + (0 + 1)) (v := iI (snV z n (adT z n (snP z n a.2)))) (by omega) t7
          refine bX8_readCart_40 i8 k13 ⟨fun _ => ?_, fun z => absurd (by decide) z⟩
          have w7 : ∀ o j, 13 ≤ o → o ≤ 19 → gI g7 o j = if o = 19 ∧ j = 2 * s.2.1 then iI (snV z n a.2) else if o = 18 ∧ j = s.2.1 then iI a.1 else gI h o j := fun o j h1 h2 => by
            rw [C7.2.2 o j (ts_13 o j h1 h2), gI_pI, C5.2.2 o j (ts_13 o j h1 h2), gI_pI, D4.2.2 o j (ts_13 o j h1 h2), C1.2.2 o j (ts_13 o j h1 h2)]
            rfl
          have e5 : gI (pI g7 (13 + 6) (2 * s.2.1 + (0 + 1)) (iI (snV z n (adT z n (snP z n a.2))))) 13 5 = iI (s.2.1 : Nat) := by
            rw [gI_pI, if_neg (by omega), w7 13 5 (by omega) (by omega), if_neg (by omega), if_neg (by omega)]
            exact a2
          rw [e5, n_1, ad_n]
          refine k5.1 _ _ rfl (C8.pI rfl _) ⟨TC_p (by omega) t8, ?_⟩
          have fin : ∀ o j, 13 ≤ o → o ≤ 19 → gI (pI (pI g7 (13 + 6) (2 * s.2.1 + (0 + 1)) (iI (snV z n (adT z n (snP z n a.2))))) 13 5 (iI ((s.2.1 + 1 : Nat) : Int))) o j = if o = 13 ∧ j = 5 then iI ((s.2.1 + 1 : Nat) : Int) else if o = 19 ∧ j = 2 * s.2.1 + 1 then iI (snV z n (adT z n (snP z n a.2))) else if o = 19 ∧ j = 2 * s.2.1 then iI (snV z n a.2) else if o = 18 ∧ j = s.2.1 then iI a.1 else gI h o j := fun o j h1 h2 => by
            rw [gI_pI, gI_pI, w7 o j h1 h2]
          refine ⟨?_, ?_, fun y i hy hi4 => ?_, fun i hi12 => ?_, fun i hic => ⟨?_, fun ax hax => ?_⟩⟩
          · rw [fin 13 4 (by omega) (by omega), if_neg (by omega), if_neg (by omega), if_neg (by omega), if_neg (by omega)]
            exact a1
          · rw [fin 13 5 (by omega) (by omega), if_pos ⟨rfl, rfl⟩]
          · rw [fin (14 + y) i (by omega) (by omega), if_neg (by omega), if_neg (by omega), if_neg (by omega), if_neg (by omega)]
            show _ = iI (upR (upR (upR s.2.2.2 4 s.2.1 a.1) 5 (2 * s.2.1) (snV z n a.2)) 5 (2 * s.2.1 + 1) (snV z n (adT z n (snP z n a.2))) y i)
            unfold upR
            rw [if_neg (by omega), if_neg (by omega), if_neg (by omega)]
            exact a3 y i hy hi4
          · rw [fin 17 i (by omega) (by omega), if_neg (by omega), if_neg (by omega), if_neg (by omega), if_neg (by omega)]
            show _ = iI (upR (upR (upR s.2.2.2 4 s.2.1 a.1) 5 (2 * s.2.1) (snV z n a.2)) 5 (2 * s.2.1 + 1) (snV z n (adT z n (snP z n a.2))) 3 i)
            unfold upR
            rw [if_neg (by omega), if_neg (by omega), if_neg (by omega)]
            exact a4 i hi12
          · rw [fin 18 i (by omega) (by omega), if_neg (by omega), if_neg (by omega), if_neg (by omega)]
            show _ = iI (upR (upR (upR s.2.2.2 4 s.2.1 a.1) 5 (2 * s.2.1) (snV z n a.2)) 5 (2 * s.2.1 + 1) (snV z n (adT z n (snP z n a.2))) 4 i)
            have hu : upR (upR (upR s.2.2.2 4 s.2.1 a.1) 5 (2 * s.2.1) (snV z n a.2)) 5 (2 * s.2.1 + 1) (snV z n (adT z n (snP z n a.2))) 4 i = if i = s.2.1 then a.1 else s.2.2.2 4 i := by unfold upR; simp
            rw [hu]
            by_cases ci : i = s.2.1
            · rw [if_pos ⟨rfl, ci⟩, if_pos ci]
            · rw [if_neg (fun w => ci w.2), if_neg ci]
              exact (a5 i (by have : i < s.2.1 + 1 := hic; omega)).1
          · rw [fin 19 _ (by omega) (by omega), if_neg (by omega)]
            show _ = iI (upR (upR (upR s.2.2.2 4 s.2.1 a.1) 5 (2 * s.2.1) (snV z n a.2)) 5 (2 * s.2.1 + 1) (snV z n (adT z n (snP z n a.2))) 5 (2 * i + ax))
            have hu : upR (upR (upR s.2.2.2 4 s.2.1 a.1) 5 (2 * s.2.1) (snV z n a.2)) 5 (2 * s.2.1 + 1) (snV z n (adT z n (snP z n a.2))) 5 (2 * i + ax) = if 2 * i + ax = 2 * s.2.1 + 1 then snV z n (adT z n (snP z n a.2)) else if 2 * i + ax = 2 * s.2.1 then snV z n a.2 else s.2.2.2 5 (2 * i + ax) := by unfold upR; simp
            rw [hu]
            by_cases c1 : 2 * i + ax = 2 * s.2.1 + 1
            · rw [if_pos ⟨rfl, c1⟩, if_pos c1]
            · rw [if_neg (fun w => c1 w.2), if_neg c1]
              by_cases c2 : 2 * i + ax = 2 * s.2.1
              · rw [if_pos ⟨rfl, c2⟩, if_pos c2]
              · rw [if_neg (fun w => c2 w.2), if_neg c2, if_neg (by omega)]
                exact (a5 i (by have : i < s.2.1 + 1 := hic; omega)).2 ax hax
        · have rc : rSn z n (adT z n (snP z n a.2)) 20 = .inl (nuW z n (snP z n (adT z n (snP z n a.2))) 0 20, snP z n (adT z n (snP z n a.2))) := by unfold rSn; rw [if_neg hw7]
          rw [rc] at k5
          exact bX8_readCart_51 (C7.iv i6) k13 ⟨fun c2 => absurd rfl c2, fun _ => k5.2 g7 _ _ rfl ((sy_sx C6).tr (tk_sx C7)) g72 g73⟩
      · have rb : rSn z n a.2 20 = .inl (nuW z n (snP z n a.2) 0 20, snP z n a.2) := by unfold rSn; rw [if_neg hw5]
        have k5 := k
        simp only [bnd] at k5
        rw [rb] at k5
        exact bX8_readCart_51 (C5.iv i4) k13 ⟨fun c2 => absurd rfl c2, fun _ => k5.2 g5 _ _ rfl ((sy_sx ((ts_sy C1).tr C4)).tr (tk_sx C5)) g52 g53⟩
    · rw [ra] at k
      exact bX8_readCart_33 (C4.iv i1) k13 ⟨fun c2 => absurd rfl c2, fun _ => k.2 g4 w p rfl ((sy_sx (ts_sy C1)).tr C4) g42 g43⟩
  · rw [if_pos (by omega)] at k
    rw [n_2]
    exact mX9_refuse hi ht.2.2.2.1 (fun g C g2 g3 => bX8_readCart_15 (C.iv hi) ⟨.inl rfl, k.2 g 2 f rfl (tk_sx C) g2 g3⟩)
theorem mX8_readPennies {z : Nat → Int} {n f : Nat} {s : SF} (hi : Iv h) (hz : ZC z h) (hn4 : n ≤ 400) (hf : f ≤ n) (ht : TC z n f h) (hF : FC s h)
    (k : rdC h Q (rPns z n 4 0 s.2.2.2 (adT z n f)) (fun a g => TC z n a.2 g ∧ ∀ b, FC (s.1, s.2.1, b, a.1) g)) : WM G jX8_readPennies [.ref 1, .ref 13] h Q := by
  have k13 : kd 13 = (2, 11) := rfl
  refine eX8_readPennies hi k13 (mX9_adv hi hz hn4 hf ht (fun g1 C1' t1 => ?_))
  have C1 := ta_ts C1'
  have l1 := adT_b (z := z) (n := n) (f := f) hf
  refine bX8_readPennies_4 (C1.iv hi) k13 ?_
  rw [n_0]
  have loop : ∀ (d p : Nat) (R : Nat → Nat → Int) (f1 : Nat) (g : mH), p + d = 4 → f1 ≤ n → Ce syS h g → TC z n f1 g → FC (s.1, s.2.1, true, R) g → (∀ r, rPns z n d p R f1 = r → rPns z n 4 0 s.2.2.2 (adT z n f) = r) → Vw G jX8_readPennies 6 [some (.ref 1), some (.ref 13), some (.int (iI p))] [] g Q := by
    intro d
    induction d with
    | zero =>
      intro p R f1 g hp hf1 hC t hF' hr
      have : p = 4 := by omega
      subst this
      exact bX8_readPennies_6 (hC.iv hi) k13 ⟨fun _ => k.1 g (R, f1) (hr _ rfl) hC ⟨t, fun b => hF'⟩, fun z => absurd (by decide) z⟩
    | succ d ih =>
      intro p R f1 g hp hf1 hC t hF' hr
      have gi := hC.iv hi
      have e1 : iI (p : Int) + 1 = iI ((p + 1 : Nat) : Int) := by rw [n_1, ad_n]
      refine bX8_readPennies_6 gi k13 ⟨fun w => ?_, fun _ => ?_⟩
      · rw [n_4, le_n (by omega) (by omega)] at w
        omega
      · rw [show (0 : Int32) = iI 0 from by decide, show (9 : Int32) = iI 9 from by decide]
        refine mX8_readInto gi (ZC_c hC sy_2 hz) hn4 hf1 t (n3 := 12) rfl rfl (by omega) (by omega) (by omega) (by omega) (by omega) ⟨fun g4 a ra C4 o4 => ?_, fun g4 w q ra C4 g42 g43 => ?_⟩
        · obtain ⟨e4, D4, t4, rfl⟩ := o4
          obtain ⟨_, _, ea, _⟩ := rNu_r (v := a.1) (f' := a.2) ra
          have l3 : a.2 ≤ n := by rw [ea]; exact (adT_b hf1).2
          refine bX8_readPennies_23 (C4.iv gi) k13 ⟨fun _ => ?_, fun c2 => absurd c2 (by decide)⟩
          rw [e1]
          refine ih (p + 1) (upR R 3 p a.1) a.2 _ (by omega) l3 (hC.tr C4) (TC_p (by omega) t4) ?_ (fun r hr' => hr r ?_)
          · have F4 := FC_c D4 ts_13 hF'
            obtain ⟨b1, b2, b3, b4, b5⟩ := F4
            refine ⟨?_, ?_, fun y i hy hi4 => ?_, fun i hi12 => ?_, fun i hic => ⟨?_, fun ax hax => ?_⟩⟩
            · rw [gI_pI, if_neg (by omega)]; exact b1
            · rw [gI_pI, if_neg (by omega)]; exact b2
            · rw [gI_pI, if_neg (by omega), b3 y i hy hi4]
              show _ = iI (upR R 3 p a.1 y i)
              unfold upR
              rw [if_neg (by omega)]
            · show gI (pI e4 (13 + 4) p (iI a.1)) 17 i = iI (upR R 3 p a.1 3 i)
              unfold upR
              rw [gI_pI]
              by_cases ci : i = p
              · rw [if_pos ⟨rfl, ci⟩, if_pos ⟨rfl, ci⟩]
              · rw [if_neg (fun w => ci w.2), if_neg (fun w => ci w.2)]
                exact b4 i hi12
            · rw [gI_pI, if_neg (by omega), (b5 i hic).1]
              show _ = iI (upR R 3 p a.1 4 i)
              unfold upR
              rw [if_neg (by omega)]
            · rw [gI_pI, if_neg (by omega), (b5 i hic).2 ax hax]
              show _ = iI (upR R 3 p a.1 5 (2 * i + ax))
              unfold upR
              rw [if_neg (by omega)]
          · unfold rPns
            rw [ra]
            exact hr'
        · refine bX8_readPennies_23 (C4.iv gi) k13 ⟨fun c2 => absurd rfl c2, fun _ => k.2 g4 w q (hr _ ?_) ((sy_sx hC).tr C4) g42 g43⟩
          unfold rPns
          rw [ra]
          rfl
  exact loop 4 0 s.2.2.2 (adT z n f) g1 (by omega) l1.2 (ts_sy C1) t1 (FC_c C1 ts_13 hF) (fun r hr => hr)
theorem mX8_readLine {z : Nat → Int} {n f : Nat} {s : SF} (hi : Iv h) (hz : ZC z h) (hn4 : n ≤ 400) (hf : f ≤ n) (ht : TC z n f h) (hs : SR s) (hF : FC s h) (hpn : wdS z n f "pennies" = true → s.2.2.1 = false)
    (k : rdC h Q (rLin z n s f) (fun a g => TC z n a.2 g ∧ FC a.1 g)) : WM G jX8_readLine [.ref 1, .ref 13] h Q := by
  have k13 : kd 13 = (2, 11) := rfl
  unfold rLin at k
  refine eX8_readLine hi k13 (mX9_isWord (x := UInt32.ofNat 2) (e9 := ("PenSwings$SwingsText", 40, "pendulum")) hi hz hn4 hf ht rfl ?_)
  refine bX8_readLine_6 hi k13 ⟨fun c => ?_, fun c => ?_⟩
  · rw [bL_0] at c
    rw [c] at k
    refine mX9_isWord (x := UInt32.ofNat 6) (e9 := ("PenSwings$SwingsText", 45, "cart")) hi hz hn4 hf ht rfl ?_
    refine bX8_readLine_21 hi k13 ⟨fun c2 => ?_, fun c2 => ?_⟩
    · rw [bL_0] at c2
      rw [c2] at k
      refine mX9_isWord (x := UInt32.ofNat 1) (e9 := ("PenSwings$SwingsText", 20, "pennies")) hi hz hn4 hf ht rfl ?_
      refine bX8_readLine_36 hi k13 ⟨fun c3 => ?_, fun c3 => ?_⟩
      · rw [bL_0] at c3
        rw [c3] at k
        rw [n_1]
        exact mX9_refuse hi ht.2.2.2.1 (fun g C g2 g3 => bX8_readLine_50 (C.iv hi) ⟨.inl rfl, k.2 g 1 f rfl (tk_sx C) g2 g3⟩)
      · rw [bL_1] at c3
        rw [c3, hpn c3] at k
        simp only [Bool.false_eq_true, if_false, if_true] at k
        refine mX8_readPennies hi hz hn4 hf ht hF ⟨fun g a ra C o => bX8_readLine_44 (C.iv hi) ⟨.inr rfl, k.1 g ((s.1, s.2.1, true, a.1), a.2) (by rw [ra]; rfl) C ⟨o.1, o.2 true⟩⟩, fun g w p ra C g2 g3 => bX8_readLine_44 (C.iv hi) ⟨.inl rfl, k.2 g w p (by rw [ra]; rfl) C g2 g3⟩⟩
    · rw [bL_1] at c2
      rw [c2] at k
      exact mX8_readCart hi hz hn4 hf ht hs.2.1 hF ⟨fun g a ra C o => bX8_readLine_29 (C.iv hi) ⟨.inr rfl, k.1 g a ra C o⟩, fun g w p ra C g2 g3 => bX8_readLine_29 (C.iv hi) ⟨.inl rfl, k.2 g w p ra C g2 g3⟩⟩
  · rw [bL_1] at c
    rw [c] at k
    exact mX8_readPendulum hi hz hn4 hf ht hs.1 hF ⟨fun g a ra C o => bX8_readLine_14 (C.iv hi) ⟨.inr rfl, k.1 g a ra C o⟩, fun g w p ra C g2 g3 => bX8_readLine_14 (C.iv hi) ⟨.inl rfl, k.2 g w p ra C g2 g3⟩⟩
def s0F : SF := (0, 0, false, fun a _ => if a = 1 then 2 else 0)
theorem s0_SR : SR s0F := ⟨by decide, by decide, fun p _ => ⟨⟨by simp [s0F], by simp [s0F]⟩, ⟨by simp [s0F], by simp [s0F]⟩, ⟨by simp [s0F], by simp [s0F]⟩, ⟨by simp [s0F], by simp [s0F]⟩, ⟨by simp [s0F], by simp [s0F]⟩, ⟨by simp [s0F], by simp [s0F]⟩⟩, fun i hi => absurd hi (Nat.not_lt_zero i)⟩
def clS (o k : Nat) : Bool := mr 13 o
theorem mX2_clear (hi : Iv h) (k : ∀ g, Sm (mr 13) h g → FC s0F g → Q (.inl none) g) : WM G jX2_clear [.ref 13] h Q := by
  have k13 : kd 13 = (2, 11) := rfl
  refine eX2_clear hi k13 (mJ7_fill hi (a := 13 + 1) (n := 4) rfl (by omega) (fun g1 S1 q1 => ?_))
  have i1 := S1.iv hi
  refine bX2_clear_8 i1 k13 (mJ7_fill i1 (a := 13 + 2) (n := 4) rfl (by omega) (fun g2 S2 q2 => ?_))
  have i2 := S2.iv i1
  refine bX2_clear_16 i2 k13 (mJ7_fill i2 (a := 13 + 3) (n := 4) rfl (by omega) (fun g3 S3 q3 => ?_))
  have i3 := S3.iv i2
  refine bX2_clear_24 i3 k13 (mJ7_fill i3 (a := 13 + 4) (n := 12) rfl (by omega) (fun g4 S4 q4 => ?_))
  have i4 := S4.iv i3
  refine bX2_clear_32 i4 k13 (k _ ?_ ?_)
  · exact (((((S1.wk (fun o ho => by unfold mr at ho; simp at ho ⊢; omega)).tr (S2.wk (fun o ho => by unfold mr at ho; simp at ho ⊢; omega))).tr (S3.wk (fun o ho => by unfold mr at ho; simp at ho ⊢; omega))).tr (S4.wk (fun o ho => by unfold mr at ho; simp at ho ⊢; omega))).pI rfl _ _).pI rfl _ _
  · refine ⟨?_, ?_, fun y i hy hi4 => ?_, fun i hi12 => ?_, fun i hi => absurd hi (Nat.not_lt_zero i)⟩
    · rw [gI_pI, if_neg (by omega), gI_pI, if_pos ⟨rfl, rfl⟩]; exact n_0
    · rw [gI_pI, if_pos ⟨rfl, rfl⟩]; exact n_0
    · rw [gI_pI, if_neg (by omega), gI_pI, if_neg (by omega)]
      rcases (show y = 0 ∨ y = 1 ∨ y = 2 from by omega) with rfl | rfl | rfl
      · rw [S4.gI (o := 14) rfl, S3.gI (o := 14) rfl, S2.gI (o := 14) rfl, q1 i hi4]
        exact i32_0
      · rw [S4.gI (o := 15) rfl, S3.gI (o := 15) rfl, q2 i hi4]
        show (2 : Int32) = iI 2
        decide
      · rw [S4.gI (o := 16) rfl, q3 i hi4]
        exact i32_0
    · rw [gI_pI, if_neg (by omega), gI_pI, if_neg (by omega), q4 i hi12]
      exact i32_0
theorem wd_ex {z : Nat → Int} {n f : Nat} {a s : String} (ha : wdS z n f a = true) (hl : a.length ≠ s.length) : wdS z n f s = false := by
  cases e : wdS z n f s with
  | false => rfl
  | true =>
    have h1 := (wdS_f ha).2.2
    have h2 := (wdS_f e).2.2
    omega
theorem bL_or (a b : Bool) : bL a ||| bL b = bL (a || b) := by cases a <;> cases b <;> decide
theorem rLin_p {z : Nat → Int} {n f f' : Nat} {s s' : SF} (h : rLin z n s f = .inr (s', f')) : s'.2.2.1 = (s.2.2.1 || wdS z n f "pennies") := by
  unfold rLin at h
  split at h
  · rename_i c
    rw [wd_ex c (s := "pennies") (by decide), Bool.or_false]
    unfold rPen at h
    split at h
    · cases h
    · split at h
      · cases h
      · obtain ⟨a, _, h⟩ := bnd_r h
        obtain ⟨b, _, h⟩ := bnd_r h
        obtain ⟨d, _, h⟩ := bnd_r h
        obtain ⟨e, _, h⟩ := bnd_r h
        cases h
        rfl
  · split at h
    · rename_i c
      rw [wd_ex c (s := "pennies") (by decide), Bool.or_false]
      unfold rCar at h
      split at h
      · cases h
      · obtain ⟨a, _, h⟩ := bnd_r h
        obtain ⟨b, _, h⟩ := bnd_r h
        obtain ⟨d, _, h⟩ := bnd_r h
        cases h
        rfl
    · split at h
      · rename_i c
        split at h
        · cases h
        · obtain ⟨a, _, h⟩ := bnd_r h
          cases h
          rw [c, Bool.or_true]
      · cases h
theorem end_C {z : Nat → Int} {n f : Nat} {g : mH} (ht : TC z n f g) : fX9_isEnd g = bL (decide (n ≤ f)) := by
  have kc := kdT_c (z := z) (n := n) (f := f)
  unfold fX9_isEnd bL
  rw [ht.2.2.1, n_0]
  by_cases c : n ≤ f
  · rw [if_pos (by rw [kc.1.mpr c]), decide_eq_true c]; rfl
  · rw [if_neg (fun w => c (kc.1.mp ((eq_n (by omega) (by omega)).mp w))), decide_eq_false c]; rfl
theorem mX8_read {z : Nat → Int} {n f : Nat} (hi : Iv h) (hz : ZC z h) (hn4 : n ≤ 400) (hf : f ≤ n) (ht : TC z n f h)
    (ky : ∀ g s, swR z n 401 s0F f = .inr s → Ce syS h g → FC s g → Q (.inl (some (.int 1))) g) (kn : ∀ g w p, swR z n 401 s0F f = .inl (w, p) → Ce sxS h g → gI g 1 2 = iI (w : Nat) → gI g 1 3 = iI (p : Nat) → Q (.inl (some (.int 0))) g) : WM G jX8_read [.ref 1, .ref 13] h Q := by
  have k13 : kd 13 = (2, 11) := rfl
  refine eX8_read hi k13 (mX2_clear hi (fun g1 S1 F1 => ?_))
  have C1 : Ce syS h g1 := Ce.sm S1 (fun o k ho => by unfold syS at ho; rw [Bool.or_eq_false_iff] at ho; exact ho.2)
  have t1 : TC z n f g1 := by
    unfold TC at ht ⊢
    rw [S1.gI (o := 1) rfl, S1.gI (o := 1) rfl, S1.gI (o := 1) rfl, S1.gI (o := 1) rfl, S1.gI (o := 1) rfl]
    exact ht
  refine bX8_read_4 (C1.iv hi) k13 ?_
  rw [n_0, show some (Value.int (iI ((0 : Nat) : Int))) = some (Value.int (bL s0F.2.2.1)) from rfl]
  have loop : ∀ (d j : Nat) (s : SF) (f1 : Nat) (g : mH), j + d = 401 → j ≤ f1 → f1 ≤ n → SR s → Ce syS h g → TC z n f1 g → FC s g → (∀ r, swR z n d s f1 = r → swR z n 401 s0F f = r) → Vw G jX8_read 8 [some (.ref 1), some (.ref 13), some (.int (bL s.2.2.1)), some (.int (iI j))] [] g Q := by
    intro d
    induction d with
    | zero =>
      intro j s f1 g hj hjf hf1 hs hC t hF hr
      have : j = 401 := by omega
      omega
    | succ d ih =>
      intro j s f1 g hj hjf hf1 hs hC t hF hr
      have gi := hC.iv hi
      have e1 : iI (j : Int) + 1 = iI ((j + 1 : Nat) : Int) := by rw [n_1, ad_n]
      have zg := ZC_c hC sy_2 hz
      have endY : n ≤ f1 → Q (.inl (some (.int 1))) g := fun w => ky g s (hr _ (by unfold swR; rw [if_pos w])) hC hF
      refine bX8_read_8 gi k13 ⟨fun w => ?_, fun w => ?_⟩
      · rw [n_400, le_n (by omega) (by omega)] at w
        exact endY (by omega)
      · rw [end_C t]
        refine ⟨fun y => endY ?_, fun y => ?_⟩
        · rw [bL_1] at y
          exact of_decide_eq_true y
        · rw [bL_0] at y
          have hfn : f1 < n := by have := of_decide_eq_false y; omega
          have hsw : swR z n (d + 1) s f1 = bnd (bnd (rLin z n s f1) (rSem z n)) fun r => swR z n d r.1 r.2 := by
            conv => lhs; unfold swR
            rw [if_neg (by omega)]
          refine mX9_isWord (x := UInt32.ofNat 1) (e9 := ("PenSwings$SwingsText", 20, "pennies")) gi zg hn4 hf1 t rfl ?_
          have go : (wdS z n f1 "pennies" = true → s.2.2.1 = false) → Vw G jX8_read 41 [some (.ref 1), some (.ref 13), some (.int (bL s.2.2.1)), some (.int (iI j))] [] g Q := fun hpn => by
            refine bX8_read_41 gi k13 (mX9_isWord (x := UInt32.ofNat 1) (e9 := ("PenSwings$SwingsText", 20, "pennies")) gi zg hn4 hf1 t rfl ?_)
            refine bX8_read_48 gi k13 ?_
            rw [bL_or]
            refine mX8_readLine gi zg hn4 hf1 t hs hF hpn ⟨fun g2 a ra C2 o2 => ?_, fun g2 w p ra C2 g22 g23 => ?_⟩
            · have i2 := C2.iv gi
              obtain ⟨x1, x2, x3⟩ := rLin_r (s' := a.1) (f' := a.2) hfn hs ra
              have x4 := rLin_p (s' := a.1) (f' := a.2) ra
              refine bX8_read_55 i2 k13 ⟨fun c2 => absurd c2 (by decide), fun _ => ?_⟩
              rw [show (59 : Int32) = iI 59 from by decide]
              refine mX9_takeSign i2 (ZC_c C2 sy_2 zg) hn4 x3 o2.1 ⟨by decide, by decide⟩ (fun g3 hw C3 t3 => ?_) (fun g3 hw C3 g32 g33 => ?_)
              · have C3' := (hC.tr C2).tr (ts_sy C3)
                refine bX8_read_64 (C3'.iv hi) k13 ⟨fun _ => ?_, fun c2 => absurd c2 (by decide)⟩
                have l3 := adT_lt (z := z) (n := n) (f := a.2) (sgT_f hw)
                rw [e1, ← x4]
                refine ih (j + 1) a.1 (adT z n a.2) g3 (by omega) (by omega) l3.2 x1 C3' t3 (FC_c C3 ts_13 o2.2) (fun r hr' => hr r ?_)
                rw [hsw, ra]
                simp only [bnd]
                unfold rSem
                rw [if_pos hw]
                exact hr'
              · refine bX8_read_64 (C3.iv i2) k13 ⟨fun c2 => absurd rfl c2, fun _ => kn g3 1 a.2 (hr _ ?_) ((sy_sx (hC.tr C2)).tr (tk_sx C3)) (by rw [g32]; exact n_1) g33⟩
                rw [hsw, ra]
                simp only [bnd]
                unfold rSem
                rw [hw]
                rfl
            · refine bX8_read_55 (C2.iv gi) k13 ⟨fun _ => kn g2 w p (hr _ ?_) ((sy_sx hC).tr C2) g22 g23, fun c2 => absurd rfl c2⟩
              rw [hsw, ra]
              rfl
          refine bX8_read_28 gi k13 ⟨fun c => go (fun w => ?_), fun c => ⟨fun c2 => go (fun _ => ?_), fun c2 => ?_⟩⟩
          · rw [bL_0] at c
            rw [c] at w
            cases w
          · rw [bL_0] at c2
            exact c2
          · rw [bL_1] at c c2
            rw [n_3]
            refine mX9_refuse gi t.2.2.2.1 (fun g2 C2 g22 g23 => bX8_read_40 (C2.iv gi) ⟨.inl rfl, kn g2 3 f1 (hr _ ?_) ((sy_sx hC).tr (tk_sx C2)) g22 g23⟩)
            rw [hsw]
            have hL : rLin z n s f1 = .inl (3, f1) := by
              unfold rLin
              rw [wd_ex c (s := "pendulum") (by decide), wd_ex c (s := "cart") (by decide)]
              simp [c, c2]
            rw [hL]
            rfl
  exact loop 401 0 s0F f g1 (by omega) (by omega) hf s0_SR C1 t1 F1 (fun r hr => hr)
end SWC2
