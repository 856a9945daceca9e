section SWC
variable {G : GX} {h : mH} {Q : mO → mH → Prop}
def sxS (o k : Nat) : Bool := tkS o k || mr 13 o
theorem tk_sx {a b : mH} (h : Ce tkS a b) : Ce sxS a b := h.wk (fun o k ho => by unfold sxS at ho; rw [Bool.or_eq_false_iff] at ho; exact ho.1)
def syS (o k : Nat) : Bool := tsS o k || mr 13 o
theorem ts_sy {a b : mH} (h : Ce tsS a b) : Ce syS a b := h.wk (fun o k ho => by unfold syS at ho; rw [Bool.or_eq_false_iff] at ho; exact ho.1)
theorem sy_sx {a b : mH} (h : Ce syS a b) : Ce sxS a b := h.wk (fun o k ho => by
  unfold sxS at ho
  rw [Bool.or_eq_false_iff] at ho
  unfold syS
  rw [Bool.or_eq_false_iff]
  refine ⟨?_, ho.2⟩
  have := ho.1
  unfold tkS at this
  unfold tsS
  simp at this ⊢
  intro e
  have := this e
  omega)
theorem ts_13 : ∀ o k, 13 ≤ o → o ≤ 19 → tsS o k = false := fun o k h1 h2 => by unfold tsS; simp; omega
theorem ts_2 : ∀ k, tsS 2 k = false := fun k => rfl
theorem sy_2 : ∀ k, syS 2 k = false := fun k => rfl
theorem TC_p {z : Nat → Int} {n f o k : Nat} {v : Int32} {g : mH} (ho : o ≠ 1) (ht : TC z n f g) : TC z n f (pI g o k v) := by
  have r : ∀ j, gI (pI g o k v) 1 j = gI g 1 j := fun j => by rw [gI_pI, if_neg (fun e => ho e.1.symm)]
  unfold TC at ht ⊢
  rw [r, r, r, r, r]
  exact ht
theorem ZC_c {z : Nat → Int} {g g' : mH} {S : Nat → Nat → Bool} (hC : Ce S g g') (hS : ∀ k, S 2 k = false) (hz : ZC z g) : ZC z g' := fun i hi => by rw [hC.2.2 2 i (hS i)]; exact hz i hi
/-- frame 13 holds what was read -/
def FC (s : SF) (g : mH) : Prop := gI g 13 4 = iI (s.1 : Nat) ∧ gI g 13 5 = iI (s.2.1 : Nat) ∧ (∀ a i, a < 3 → i < 4 → gI g (14 + a) i = iI (s.2.2.2 a i)) ∧ (∀ i, i < 12 → gI g 17 i = iI (s.2.2.2 3 i)) ∧ ∀ i, i < s.2.1 → gI g 18 i = iI (s.2.2.2 4 i) ∧ ∀ ax, ax < 2 → gI g 19 (2 * i + ax) = iI (s.2.2.2 5 (2 * i + ax))
theorem FC_c {s : SF} {g g' : mH} {S : Nat → Nat → Bool} (hC : Ce S g g') (hS : ∀ o k, 13 ≤ o → o ≤ 19 → S o k = false) (h : FC s g) : FC s g' := by
  obtain ⟨a, b, c, d, e⟩ := h
  have r : ∀ o k, 13 ≤ o → o ≤ 19 → gI g' o k = gI g o k := fun o k h1 h2 => hC.2.2 o k (hS o k h1 h2)
  refine ⟨by rw [r 13 4 (by omega) (by omega)]; exact a, by rw [r 13 5 (by omega) (by omega)]; exact b, fun x i hx hi => by rw [r (14 + x) i (by omega) (by omega)]; exact c x i hx hi, fun i hi => by rw [r 17 i (by omega) (by omega)]; exact d i hi, fun i hi => ⟨by rw [r 18 i (by omega) (by omega)]; exact (e i hi).1, fun ax hax => by rw [r 19 _ (by omega) (by omega)]; exact (e i hi).2 ax hax⟩⟩
theorem tk_13 : ∀ o k, 13 ≤ o → o ≤ 19 → tkS o k = false := fun o k h1 h2 => by unfold tkS; simp; omega
theorem tk_2 : ∀ k, tkS 2 k = false := fun k => rfl
theorem sx_2 : ∀ k, sxS 2 k = false := fun k => rfl
/-- a reader of the class: from token f it comes to r -/
def rdC {α : Type} (h : mH) (Q : mO → mH → Prop) (r : (Nat × Nat) ⊕ α) (ok : α → mH → Prop) : Prop := (∀ g a, r = .inr a → Ce syS h g → ok a g → Q (.inl (some (.int 1))) g) ∧ (∀ g w p, r = .inl (w, p) → Ce sxS h g → gI g 1 2 = iI (w : Nat) → gI g 1 3 = iI (p : Nat) → Q (.inl (some (.int 0))) g)
theorem mX8_readInto {z : Nat → Int} {n f r3 n3 i : Nat} {lo hi' : Int} (hi : Iv h) (hz : ZC z h) (hn4 : n ≤ 400) (hf : f ≤ n) (ht : TC z n f h) (k3 : kd r3 = (100, n3)) (hr : mr 13 r3 = true) (hi3 : i < n3) (hn3 : n3 ≤ 100) (hlo : 0 ≤ lo) (hlh : lo ≤ 999) (hhi : 0 ≤ hi' ∧ hi' ≤ 999)
    (k : rdC h Q (rNu z n f lo hi') (fun a g => ∃ g1, Ce tsS h g1 ∧ TC z n a.2 g1 ∧ g = pI g1 r3 i (iI a.1))) : WM G jX8_readInto [.ref 1, .int (iI lo), .int (iI hi'), .ref r3, .int (iI i)] h Q := by
  have r31 : r3 ≠ 1 := fun e => by subst e; cases hr
  refine eX8_readInto hi k3 (mX9_takeNumber hi hz hn4 hf ht hlo hlh hhi (fun g hw C t g4 => ?_) (fun g hw C g2 g3 => ?_))
  · refine bX8_readInto_6 (C.iv hi) k3 ⟨fun _ => ?_, fun c => absurd c (by decide)⟩
    rw [ix_n (by omega), g4]
    refine ⟨in_n hi3 (by omega), k.1 _ (nuV z n f, adT z n f) (by unfold rNu; rw [if_pos hw]) ((ts_sy C).pI (by unfold syS; rw [hr, Bool.or_true]) _) ⟨g, C, t, rfl⟩⟩
  · exact bX8_readInto_6 (C.iv hi) k3 ⟨fun c => absurd rfl c, fun _ => k.2 g _ f (by unfold rNu; rw [if_neg hw]) (tk_sx C) g2 g3⟩
theorem mX8_kindTold {z : Nat → Int} {n f : Nat} (hi : Iv h) (hz : ZC z h) (hn4 : n ≤ 400) (hf : f ≤ n) (ht : TC z n f h) (k : Q (.inl (some (.int (iI (match kiT z n f with | none => -1 | some q => (q : Int)))))) h) : WM G jX8_kindTold [.ref 1] h Q := by
  unfold kiT at k
  refine eX8_kindTold hi (mX9_isWord (x := UInt32.ofNat 3) (e9 := ("PenSwings$SwingsText", 85, "even")) hi hz hn4 hf ht rfl ?_)
  refine bX8_kindTold_6 hi ⟨fun c => mX9_isWord (x := UInt32.ofNat 4) (e9 := ("PenSwings$SwingsText", 87, "bowl")) hi hz hn4 hf ht rfl ?_, fun c => ?_⟩
  · rw [bL_0] at c
    refine bX8_kindTold_17 hi ⟨fun c2 => mX9_isWord (x := UInt32.ofNat 5) (e9 := ("PenSwings$SwingsText", 89, "kick")) hi hz hn4 hf ht rfl ?_, fun c2 => ?_⟩
    · rw [bL_0] at c2
      refine bX8_kindTold_28 hi ⟨fun c3 => ?_, fun c3 => ?_⟩
      · rw [bL_0] at c3
        rw [c, c2, c3] at k
        exact k
      · rw [bL_1] at c3
        rw [c, c2, c3] at k
        exact k
    · rw [bL_1] at c2
      rw [c, c2] at k
      exact k
  · rw [bL_1] at c
    rw [c] at k
    exact k
theorem mX8_readPendulum {z : Nat → Int} {n f : Nat} {s : SF} (hi : Iv h) (hz : ZC z h) (hn4 : n ≤ 400) (hf : f ≤ n) (ht : TC z n f h) (hs4 : s.1 ≤ 4) (hF : FC s h)
    (k : rdC h Q (rPen z n s f) (fun a g => TC z n a.2 g ∧ FC a.1 g)) : WM G jX8_readPendulum [.ref 1, .ref 13] h Q := by
  have k13 : kd 13 = (2, 11) := rfl
  obtain ⟨a1, a2, a3, a4, a5⟩ := id hF
  unfold rPen at k
  refine eX8_readPendulum hi k13 ?_
  rw [a1, n_4, lt_n (by omega) (by omega)]
  refine ⟨fun c => ?_, fun c => ?_⟩
  · rw [if_neg (by omega)] at k
    refine mX9_adv hi hz hn4 hf ht (fun g1 C1' t1 => ?_)
    have C1 := ta_ts C1'
    have i1 := C1.iv hi
    have z1 := ZC_c C1 ts_2 hz
    have l1 := adT_b (z := z) (n := n) (f := f) hf
    refine bX8_readPendulum_20 i1 k13 (mX8_kindTold i1 z1 hn4 l1.2 t1 ?_)
    cases hk : kiT z n (adT z n f) with
    | none =>
      rw [hk] at k
      refine bX8_readPendulum_24 i1 k13 ⟨fun c2 => absurd m1_iI.symm c2, fun _ => ?_⟩
      rw [n_1]
      exact mX9_refuse i1 t1.2.2.2.1 (fun g C g2 g3 => bX8_readPendulum_35 (C.iv i1) ⟨.inl rfl, k.2 g 1 (adT z n f) rfl (tk_sx ((ts_tk C1).tr C)) g2 g3⟩)
    | some q =>
      rw [hk] at k
      have q2 : q ≤ 2 := by
        unfold kiT at hk
        repeat' split at hk
        all_goals first | (cases hk; omega) | cases hk
      have qm : ¬ iI (q : Int) = -1 := by rw [m1_iI, iI_eq ⟨by omega, by omega⟩ ⟨by decide, by decide⟩]; omega
      refine bX8_readPendulum_24 i1 k13 ⟨fun _ => mX9_adv i1 z1 hn4 l1.2 t1 (fun g2 C2' t2 => ?_), fun c2 => absurd c2 qm⟩
      have C2 := C1.tr (ta_ts C2')
      have i2 := C2.iv hi
      have l2 := adT_b (z := z) (n := n) (f := adT z n f) l1.2
      refine bX8_readPendulum_40 i2 k13 ?_
      rw [ix_n (by omega)]
      refine ⟨in_n c (by omega), ?_⟩
      generalize hg3 : pI g2 (13 + 1) s.1 (iI (q : Int)) = g3
      have C3 : Ce syS h g3 := by rw [← hg3]; exact (ts_sy C2).pI rfl _
      have i3 := C3.iv hi
      have z3 := ZC_c C3 sy_2 hz
      have t3 : TC z n (adT z n (adT z n f)) g3 := by rw [← hg3]; exact TC_p (by omega) t2
      rw [show (2 : Int32) = iI 2 from by decide, show (40 : Int32) = iI 40 from by decide]
      refine mX8_readInto i3 z3 hn4 l2.2 t3 (n3 := 4) rfl rfl c (by omega) (by omega) (by omega) (by omega) ⟨fun g4 a ra C4 o4 => ?_, fun g4 w p ra C4 g42 g43 => ?_⟩
      · rw [ra] at k
        obtain ⟨e4, D4, t4, rfl⟩ := o4
        obtain ⟨_, _, ea, _⟩ := rNu_r (v := a.1) (f' := a.2) ra
        have l3 : a.2 ≤ n := by rw [ea]; exact (adT_b l2.2).2
        have i4 := C4.iv i3
        have z4 := ZC_c C4 sy_2 z3
        have t4' := TC_p (o := 13 + 2) (k := s.1) (v := iI a.1) (by omega) t4
        refine bX8_readPendulum_59 i4 k13 ⟨fun c2 => absurd c2 (by decide), fun _ => ?_⟩
        rw [show (8 : Int32) + iI (s.1 : Int) = iI ((8 + s.1 : Nat) : Int) from by rw [n_8, ad_n], show (0 : Int32) = iI 0 from by decide, show (90 : Int32) = iI 90 from by decide]
        refine mX8_readInto i4 z4 hn4 l3 t4' (n3 := 12) rfl rfl (by omega) (by omega) (by omega) (by omega) (by omega) ⟨fun g5 b rb C5 o5 => ?_, fun g5 w p rb C5 g52 g53 => ?_⟩
        · have k5 := k
          simp only [bnd] at k5
          rw [rb] at k5
          obtain ⟨e5, D5, t5, rfl⟩ := o5
          obtain ⟨_, _, eb, _⟩ := rNu_r (v := b.1) (f' := b.2) rb
          have l4 : b.2 ≤ n := by rw [eb]; exact (adT_b l3).2
          have i5 := C5.iv i4
          have z5 := ZC_c C5 sy_2 z4
          have t5' := TC_p (o := 13 + 4) (k := 8 + s.1) (v := iI b.1) (by omega) t5
          refine bX8_readPendulum_77 i5 k13 ⟨fun c2 => absurd c2 (by decide), fun _ => ?_⟩
          rw [show (4 : Int32) + iI (s.1 : Int) = iI ((4 + s.1 : Nat) : Int) from by rw [n_4, ad_n], show (0 : Int32) = iI 0 from by decide, show (99 : Int32) = iI 99 from by decide]
          refine mX8_readInto i5 z5 hn4 l4 t5' (n3 := 12) rfl rfl (by omega) (by omega) (by omega) (by omega) (by omega) ⟨fun g6 d rd C6 o6 => ?_, fun g6 w p rd C6 g62 g63 => ?_⟩
          · simp only at k5
            rw [rd] at k5
            obtain ⟨e6, D6, t6, rfl⟩ := o6
            obtain ⟨_, _, ed, _⟩ := rNu_r (v := d.1) (f' := d.2) rd
            have l5 : d.2 ≤ n := by rw [ed]; exact (adT_b l4).2
            have i6 := C6.iv i5
            have z6 := ZC_c C6 sy_2 z5
            have t6' := TC_p (o := 13 + 4) (k := 4 + s.1) (v := iI d.1) (by omega) t6
            refine bX8_readPendulum_94 i6 k13 ⟨fun c2 => absurd c2 (by decide), fun _ => ?_⟩
            rw [show (0 : Int32) = iI 0 from by decide, show (99 : Int32) = iI 99 from by decide]
            refine mX8_readInto i6 z6 hn4 l5 t6' (n3 := 4) rfl rfl c (by omega) (by omega) (by omega) (by omega) ⟨fun g7 x rx C7 o7 => ?_, fun g7 w p rx C7 g72 g73 => ?_⟩
            · simp only at k5
              rw [rx] at k5
              obtain ⟨e7, D7, t7, rfl⟩ := o7
              have i7 := C7.iv i6
              have t7' := TC_p (o := 13 + 3) (k := s.1) (v := iI x.1) (by omega) t7
              refine bX8_readPendulum_109 i7 k13 ⟨fun c2 => absurd c2 (by decide), fun _ => eX8_countPendulum i7 k13 (bX8_readPendulum_116 (h := pI (pI e7 (13 + 3) s.1 (iI x.1)) 13 4 (gI (pI e7 (13 + 3) s.1 (iI x.1)) 13 4 + 1)) i7 ⟨fun c2 => absurd c2 (by decide), fun _ => ?_⟩)⟩
              have w2 : ∀ o j, 13 ≤ o → o ≤ 19 → gI g2 o j = gI h o j := fun o j h1 h2 => C2.2.2 o j (ts_13 o j h1 h2)
              have w3 : ∀ o j, 13 ≤ o → o ≤ 19 → gI g3 o j = if o = 14 ∧ j = s.1 then iI (q : Int) else gI h o j := fun o j h1 h2 => by rw [← hg3, gI_pI, w2 o j h1 h2]
              have w4 : ∀ o j, 13 ≤ o → o ≤ 19 → gI e4 o j = gI g3 o j := fun o j h1 h2 => D4.2.2 o j (ts_13 o j h1 h2)
              have w5 : ∀ o j, 13 ≤ o → o ≤ 19 → gI e5 o j = gI (pI e4 (13 + 2) s.1 (iI a.1)) o j := fun o j h1 h2 => D5.2.2 o j (ts_13 o j h1 h2)
              have w6 : ∀ o j, 13 ≤ o → o ≤ 19 → gI e6 o j = gI (pI e5 (13 + 4) (8 + s.1) (iI b.1)) o j := fun o j h1 h2 => D6.2.2 o j (ts_13 o j h1 h2)
              have w7 : ∀ o j, 13 ≤ o → o ≤ 19 → gI e7 o j = gI (pI e6 (13 + 4) (4 + s.1) (iI d.1)) o j := fun o j h1 h2 => D7.2.2 o j (ts_13 o j h1 h2)
              have e74 : gI (pI e7 (13 + 3) s.1 (iI x.1)) 13 4 = iI (s.1 : Nat) := by
                rw [gI_pI, if_neg (by omega), w7 13 4 (by omega) (by omega), gI_pI, if_neg (by omega), w6 13 4 (by omega) (by omega), gI_pI, if_neg (by omega), w5 13 4 (by omega) (by omega), gI_pI, if_neg (by omega), w4 13 4 (by omega) (by omega), w3 13 4 (by omega) (by omega), if_neg (by omega)]
                exact a1
              rw [e74, n_1, ad_n]
              refine k5.1 _ _ rfl ((((C3.tr C4).tr C5).tr C6).tr C7 |>.pI rfl _) ⟨TC_p (by omega) t7', ?_⟩
              have fin : ∀ o j, 13 ≤ o → o ≤ 19 → gI (pI (pI e7 (13 + 3) s.1 (iI x.1)) 13 4 (iI ((s.1 + 1 : Nat) : Int))) o j = if o = 13 ∧ j = 4 then iI ((s.1 + 1 : Nat) : Int) else if o = 16 ∧ j = s.1 then iI x.1 else if o = 17 ∧ j = 4 + s.1 then iI d.1 else if o = 17 ∧ j = 8 + s.1 then iI b.1 else if o = 15 ∧ j = s.1 then iI a.1 else if o = 14 ∧ j = s.1 then iI (q : Int) else gI h o j := fun o j h1 h2 => by
                rw [gI_pI, gI_pI, w7 o j h1 h2, gI_pI, w6 o j h1 h2, gI_pI, w5 o j h1 h2, gI_pI, w4 o j h1 h2, w3 o j h1 h2]
              refine ⟨?_, ?_, fun y i hy hi4 => ?_, fun i hi12 => ?_, fun i hic => ⟨?_, fun ax hax => ?_⟩⟩
              · rw [fin 13 4 (by omega) (by omega), if_pos ⟨rfl, rfl⟩]
              · rw [fin 13 5 (by omega) (by omega), if_neg (by omega), if_neg (by omega), if_neg (by omega), if_neg (by omega), if_neg (by omega), if_neg (by omega)]
                exact a2
              · rw [fin (14 + y) i (by omega) (by omega), if_neg (by omega)]
                show _ = iI (upR (upR (upR (upR (upR s.2.2.2 0 s.1 q) 1 s.1 a.1) 3 (8 + s.1) b.1) 3 (4 + s.1) d.1) 2 s.1 x.1 y i)
                unfold upR
                by_cases y2 : y = 2
                · subst y2
                  by_cases ci : i = s.1
                  · simp [ci]
                  · simp [ci]
                    exact a3 2 i (by omega) hi4
                · by_cases y1 : y = 1
                  · subst y1
                    by_cases ci : i = s.1
                    · simp [ci]
                    · simp [ci]
                      exact a3 1 i (by omega) hi4
                  · have y0 : y = 0 := by omega
                    subst y0
                    by_cases ci : i = s.1
                    · simp [ci]
                    · simp [ci]
                      exact a3 0 i (by omega) hi4
              · rw [fin 17 i (by omega) (by omega), if_neg (by omega), if_neg (by omega)]
                show _ = iI (upR (upR (upR (upR (upR s.2.2.2 0 s.1 q) 1 s.1 a.1) 3 (8 + s.1) b.1) 3 (4 + s.1) d.1) 2 s.1 x.1 3 i)
                unfold upR
                simp only
                by_cases c1 : i = 4 + s.1
                · simp [c1]
                · by_cases c2 : i = 8 + s.1
                  · subst c2
                    simp
                  · simp [c1, c2]
                    exact a4 i hi12
              · rw [fin 18 i (by omega) (by omega), if_neg (by omega), if_neg (by omega), if_neg (by omega), if_neg (by omega), if_neg (by omega), if_neg (by omega)]
                exact (a5 i hic).1
              · rw [fin 19 _ (by omega) (by omega), if_neg (by omega), if_neg (by omega), if_neg (by omega), if_neg (by omega), if_neg (by omega), if_neg (by omega)]
                exact (a5 i hic).2 ax hax
            · simp only at k5
              rw [rx] at k5
              exact bX8_readPendulum_109 (C7.iv i6) k13 ⟨fun _ => k5.2 g7 w p rfl ((sy_sx (((C3.tr C4).tr C5).tr C6)).tr C7) g72 g73, fun c2 => absurd rfl c2⟩
          · simp only at k5
            rw [rd] at k5
            exact bX8_readPendulum_94 (C6.iv i5) k13 ⟨fun _ => k5.2 g6 w p rfl ((sy_sx ((C3.tr C4).tr C5)).tr C6) g62 g63, fun c2 => absurd rfl c2⟩
        · have k5 := k
          simp only [bnd] at k5
          rw [rb] at k5
          exact bX8_readPendulum_77 (C5.iv i4) k13 ⟨fun _ => k5.2 g5 w p rfl ((sy_sx (C3.tr C4)).tr C5) g52 g53, fun c2 => absurd rfl c2⟩
      · rw [ra] at k
        exact bX8_readPendulum_59 (C4.iv i3) k13 ⟨fun _ => k.2 g4 w p rfl ((sy_sx C3).tr C4) g42 g43, fun c2 => absurd rfl c2⟩
  · rw [if_pos (by omega)] at k
    rw [n_2]
    exact mX9_refuse hi ht.2.2.2.1 (fun g C g2 g3 => bX8_readPendulum_15 (C.iv hi) ⟨.inl rfl, k.2 g 2 f rfl (tk_sx C) g2 g3⟩)
end SWC
