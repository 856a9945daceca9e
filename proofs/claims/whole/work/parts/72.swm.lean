section SWM
variable {G : GX} {h : mH} {Q : mO → mH → Prop}
def mxS (o k : Nat) : Bool := nmS o k || ((o == 83 && (k == 21 || (k == 22 || (k == 23)))) || decide (91 ≤ o ∧ o ≤ 95))
theorem nm_mx {a b : mH} (h : Cj nmS a b) : Cj mxS a b := h.wk (fun o k ho => by unfold mxS at ho; rw [Bool.or_eq_false_iff] at ho; exact ho.1)
def myS (o k : Nat) : Bool := smS o k || ((o == 83 && (k == 21 || (k == 22 || (k == 23)))) || decide (91 ≤ o ∧ o ≤ 95))
theorem sm_my {a b : mH} (h : Cj smS a b) : Cj myS a b := h.wk (fun o k ho => by unfold myS at ho; rw [Bool.or_eq_false_iff] at ho; exact ho.1)
theorem my_mx {a b : mH} (h : Cj myS a b) : Cj mxS a b := h.wk (fun o k ho => by
  unfold mxS at ho
  rw [Bool.or_eq_false_iff] at ho
  unfold myS
  rw [Bool.or_eq_false_iff]
  refine ⟨?_, ho.2⟩
  have := ho.1
  unfold nmS at this
  unfold smS
  simp at this ⊢
  omega)
theorem my_89 : ∀ k, myS 89 k = false := fun k => rfl
theorem sm_89 : ∀ k, smS 89 k = false := fun k => rfl
theorem sm_95 : ∀ o k, (91 ≤ o ∧ o ≤ 95) ∨ (o = 83 ∧ 20 ≤ k) → smS o k = false := fun o k h1 => by unfold smS; simp; omega
theorem ZM_c {z : Nat → Int} {g g' : mH} {S : Nat → Nat → Bool} (hC : Cj S g g') (hS : ∀ k, S 89 k = false) (hz : ZM z g) : ZM z g' := fun i hi => by rw [hC.2.2.2 89 i (hS i)]; exact hz i hi
theorem mx_89 : ∀ k, mxS 89 k = false := fun k => rfl
theorem nm_89 : ∀ k, nmS 89 k = false := fun k => rfl
theorem TM_p {z : Nat → Int} {n f o k : Nat} {v : Int32} {g : mH} (ho : o ≠ 83 ∨ 20 ≤ k) (ht : TM z n f g) : TM z n f (pI g o k v) := by
  have r : ∀ j, j < 20 → gI (pI g o k v) 83 j = gI g 83 j := fun j hj => by rw [gI_pI, if_neg (by omega)]
  unfold TM at ht ⊢
  rw [r 13 (by omega), r 14 (by omega), r 15 (by omega), r 16 (by omega), r 17 (by omega), r 18 (by omega), r 19 (by omega), gJ_pI]
  exact ht
theorem FM_p {w p o k : Nat} {v : Int32} {g : mH} (ho : o ≠ 83 ∨ 20 ≤ k) (hf : FM g w p) : FM (pI g o k v) w p := by
  unfold FM at hf ⊢
  rw [gI_pI, if_neg (by omega), gI_pI, if_neg (by omega)]
  exact hf
/-- the new rows hold what was read -/
def FN (s : SF) (g : mH) : Prop := gI g 83 21 = iI (s.1 : Nat) ∧ gI g 83 22 = iI (s.2.1 : Nat) ∧ gI g 83 23 = bL s.2.2.1 ∧ (∀ a i, a < 3 → i < 4 → gI g (91 + a) i = iI (s.2.2.2 a i)) ∧ (∀ i, i < 12 → gI g 94 i = iI (s.2.2.2 3 i)) ∧ ∀ i, i < s.2.1 → gI g 95 (3 * i) = iI (s.2.2.2 4 i) ∧ ∀ ax, ax < 2 → gI g 95 (3 * i + 1 + ax) = iI (s.2.2.2 5 (2 * i + ax))
theorem FN_c {s : SF} {g g' : mH} {S : Nat → Nat → Bool} (hC : Cj S g g') (hS : ∀ o k, (91 ≤ o ∧ o ≤ 95) ∨ (o = 83 ∧ 20 ≤ k) → S o k = false) (h : FN s g) : FN s g' := by
  obtain ⟨a, b, c0, c, d, e⟩ := h
  have r : ∀ o k, (91 ≤ o ∧ o ≤ 95) ∨ (o = 83 ∧ 20 ≤ k) → gI g' o k = gI g o k := fun o k h1 => hC.2.2.2 o k (hS o k h1)
  refine ⟨by rw [r 83 21 (by omega)]; exact a, by rw [r 83 22 (by omega)]; exact b, by rw [r 83 23 (by omega)]; exact c0, fun x i hx hi => by rw [r (91 + x) i (by omega)]; exact c x i hx hi, fun i hi => by rw [r 94 i (by omega)]; exact d i hi, fun i hi => ⟨by rw [r 95 _ (by omega)]; exact (e i hi).1, fun ax hax => by rw [r 95 _ (by omega)]; exact (e i hi).2 ax hax⟩⟩
theorem nm_95 : ∀ o k, (91 ≤ o ∧ o ≤ 95) ∨ (o = 83 ∧ 20 ≤ k) → nmS o k = false := fun o k h1 => by unfold nmS; simp; omega
/-- a reader of the model -/
def rdM {α : Type} (h : mH) (Q : mO → mH → Prop) (r : (Nat × Nat) ⊕ α) (ok : α → mH → Prop) : Prop := (∀ g a, r = .inr a → Cj myS h g → gI g 83 10 = 0 → ok a g → Q (.inl none) g) ∧ (∀ g w p, r = .inl (w, p) → Cj mxS h g → FM g w p → Q (.inl none) g)
theorem pT144 {g : mH} {w p t : Nat} {vs : Int32} (gi : Iv g) (hF : FM g w p) (w0 : w ≠ 0) (w9 : w ≤ 9) (h4 : t < 4) (k : ∀ g', Cj mxS g g' → FM g' w p → Q (.inl none) g') : Vw G jX11_readsPendulum 144 [some (.ref 83), none, none] [.int vs, .int (iI (t : Nat)), .ref 93] g Q := by
  refine bX11_readsPendulum_144 gi ?_
  rw [ix_n (by omega)]
  have F' := FM_p (o := 93) (k := t) (v := vs) (.inl (by omega)) hF
  exact ⟨in_n h4 (by omega), fun _ => k _ (Cj.rf.pI rfl _) F', fun c => absurd (good_b.mpr (FM_bad F' w0 w9)) c⟩
theorem pT128 {g : mH} {w p t : Nat} {vs : Int32} (gi : Iv g) (hF : FM g w p) (w0 : w ≠ 0) (w9 : w ≤ 9) (h21 : gI g 83 21 = iI (t : Nat)) (h4 : t < 4) (k : ∀ g', Cj mxS g g' → FM g' w p → Q (.inl none) g') : Vw G jX11_readsPendulum 128 [some (.ref 83), none, none] [.int vs, .int (iI ((4 + t : Nat) : Int)), .ref 94] g Q := by
  refine bX11_readsPendulum_128 gi ?_
  rw [ix_n (by omega), show gI (pI g 94 (4 + t) vs) 83 21 = iI (t : Nat) from by rw [gI_pI, if_neg (by omega)]; exact h21]
  have F' := FM_p (o := 94) (k := 4 + t) (v := vs) (.inl (by omega)) hF
  exact ⟨in_n (by omega) (by omega), mX11_number_bad (h := pI g 94 (4 + t) vs) gi (FM_bad F' w0 w9) (pT144 (g := pI g 94 (4 + t) vs) gi F' w0 w9 h4 (fun g' C F => k g' ((Cj.rf.pI rfl _).tr C) F))⟩
theorem pT110 {g : mH} {w p t : Nat} {vs : Int32} (gi : Iv g) (hF : FM g w p) (w0 : w ≠ 0) (w9 : w ≤ 9) (h21 : gI g 83 21 = iI (t : Nat)) (h4 : t < 4) (k : ∀ g', Cj mxS g g' → FM g' w p → Q (.inl none) g') : Vw G jX11_readsPendulum 110 [some (.ref 83), none, none] [.int vs, .int (iI ((8 + t : Nat) : Int)), .ref 94] g Q := by
  refine bX11_readsPendulum_110 gi ?_
  have q : gI (pI g 94 (8 + t) vs) 83 21 = iI (t : Nat) := by rw [gI_pI, if_neg (by omega)]; exact h21
  rw [ix_n (by omega), q, n_4, ad_n]
  have F' := FM_p (o := 94) (k := 8 + t) (v := vs) (.inl (by omega)) hF
  exact ⟨in_n (by omega) (by omega), mX11_number_bad (h := pI g 94 (8 + t) vs) gi (FM_bad F' w0 w9) (pT128 (g := pI g 94 (8 + t) vs) gi F' w0 w9 q h4 (fun g' C F => k g' ((Cj.rf.pI rfl _).tr C) F))⟩
theorem pT91 {g : mH} {w p t : Nat} {vs : Int32} (gi : Iv g) (hF : FM g w p) (w0 : w ≠ 0) (w9 : w ≤ 9) (h21 : gI g 83 21 = iI (t : Nat)) (h4 : t < 4) (k : ∀ g', Cj mxS g g' → FM g' w p → Q (.inl none) g') : Vw G jX11_readsPendulum 91 [some (.ref 83), none, none] [.int vs, .int (iI ((t : Nat) : Int)), .ref 92] g Q := by
  refine bX11_readsPendulum_91 gi ?_
  have q : gI (pI g 92 t vs) 83 21 = iI (t : Nat) := by rw [gI_pI, if_neg (by omega)]; exact h21
  rw [ix_n (by omega), q, n_8, ad_n]
  have F' := FM_p (o := 92) (k := t) (v := vs) (.inl (by omega)) hF
  exact ⟨in_n (by omega) (by omega), mX11_number_bad (h := pI g 92 t vs) gi (FM_bad F' w0 w9) (pT110 (g := pI g 92 t vs) gi F' w0 w9 q h4 (fun g' C F => k g' ((Cj.rf.pI rfl _).tr C) F))⟩
theorem pT66 {g : mH} {w p t : Nat} {vs : Int32} (gi : Iv g) (hF : FM g w p) (w0 : w ≠ 0) (w9 : w ≤ 9) (h21 : gI g 83 21 = iI (t : Nat)) (h4 : t < 4) (k : ∀ g', Cj mxS g g' → FM g' w p → Q (.inl none) g') : Vw G jX11_readsPendulum 66 [some (.ref 83), some (.int vs), none] [] g Q := by
  refine bX11_readsPendulum_66 gi ?_
  have q : gI (pI g 91 t vs) 83 21 = iI (t : Nat) := by rw [gI_pI, if_neg (by omega)]; exact h21
  rw [h21, ix_n (by omega), q]
  have F' := FM_p (o := 91) (k := t) (v := vs) (.inl (by omega)) hF
  exact ⟨in_n (by omega) (by omega), mX11_number_bad (h := pI g 91 t vs) gi (FM_bad F' w0 w9) (pT91 (g := pI g 91 t vs) gi F' w0 w9 q h4 (fun g' C F => k g' ((Cj.rf.pI rfl _).tr C) F))⟩
theorem kiT_ex {z : Nat → Int} {n f : Nat} : (wdS z n f "even" = true → wdS z n f "bowl" = false ∧ wdS z n f "kick" = false) ∧ (wdS z n f "bowl" = true → wdS z n f "kick" = false) := by
  have ne : ∀ a b : String, a.length = 4 → b.length = 4 → (a.toList.getD 0 'a').toNat ≠ (b.toList.getD 0 'a').toNat → wdS z n f a = true → wdS z n f b = false := fun a b la lb hne ha => by
    cases e : wdS z n f b with
    | false => rfl
    | true =>
      unfold wdS at ha e
      have h1 := (of_decide_eq_true ha).2.2 0 (by omega)
      have h2 := (of_decide_eq_true e).2.2 0 (by omega)
      rw [h1] at h2
      omega
  exact ⟨fun h => ⟨ne "even" "bowl" (by decide) (by decide) (by decide) h, ne "even" "kick" (by decide) (by decide) (by decide) h⟩, fun h => ne "bowl" "kick" (by decide) (by decide) (by decide) h⟩
theorem mX11_readsPendulum {z : Nat → Int} {n f : Nat} {s : SF} (hi : Iv h) (hz : ZM z h) (hn4 : n ≤ 400) (hf : f ≤ n) (ht : TM z n f h) (hg : gI h 83 10 = 0) (hs4 : s.1 ≤ 4) (hF : FN s h)
    (k : rdM h Q (rPen z n s f) (fun a g => TM z n a.2 g ∧ FN a.1 g)) : WM G jX11_readsPendulum [.ref 83] h Q := by
  obtain ⟨a1, a2, a0, a3, a4, a5⟩ := id hF
  unfold rPen at k
  refine eX11_readsPendulum hi ?_
  rw [a1, n_4, eq_n (by omega) (by omega)]
  refine ⟨fun c => bX11_readsPendulum_13 hi ⟨fun _ => ?_, fun w => absurd hg (good_b.mp w)⟩, fun c => ?_⟩
  · rw [if_neg (by omega)] at k
    have c4 : s.1 < 4 := by omega
    refine mX11_stp hi hz hn4 hf ht (fun g1 C1' t1 => ?_)
    have C1 := C1'
    have i1 := C1.iv hi
    have z1 := ZM_c C1 sm_89 hz
    have q1 : gI g1 83 10 = 0 := by rw [sm_10 C1']; exact hg
    have F1 := FN_c C1 sm_95 hF
    have l1 := adT_b (z := z) (n := n) (f := f) hf
    refine bX11_readsPendulum_25 i1 ?_
    -- the kind's word
    have word : Vw G jX11_readsPendulum 29 [some (.ref 83), some (.int (iI (match kiT z n (adT z n f) with | none => -1 | some q => (q : Int)))), some (.int 3)] [] g1 Q → Vw G jX11_readsPendulum 29 [some (.ref 83), some (.int (-1)), some (.int 0)] [] g1 Q := by
      intro last
      have one : ∀ (v : Int32) (q : Nat), q < 3 → Vw G jX11_readsPendulum 29 [some (.ref 83), some (.int (if wdS z n (adT z n f) (strM q) then iI (q : Int) else v)), some (.int (iI ((q + 1 : Nat) : Int)))] [] g1 Q → Vw G jX11_readsPendulum 29 [some (.ref 83), some (.int v), some (.int (iI (q : Int)))] [] g1 Q := fun v q hq nx => by
        refine bX11_readsPendulum_29 i1 ⟨fun w => ?_, fun _ => ?_⟩
        · rw [n_3, le_n (by omega) (by omega)] at w
          omega
        · rw [show (0 : Int32) + iI (q : Int) = iI (q : Int) from by rw [n_0, ad_n, Nat.zero_add]]
          refine mX11_is i1 l1.2 hn4 t1 (by omega) (bX11_readsPendulum_41 i1 ⟨fun w => bX11_readsPendulum_46 i1 ?_, fun w => bX11_readsPendulum_46 i1 ?_⟩)
          · rw [bL_0] at w
            rw [w] at nx
            rw [n_1, ad_n]
            exact nx
          · rw [bL_1] at w
            rw [w] at nx
            rw [n_1, ad_n]
            exact nx
      rw [n_0]
      refine one _ 0 (by omega) (one _ 1 (by omega) (one _ 2 (by omega) ?_))
      have kx := kiT_ex (z := z) (n := n) (f := adT z n f)
      have hv : (if wdS z n (adT z n f) (strM 2) then iI ((2 : Nat) : Int) else if wdS z n (adT z n f) (strM 1) then iI ((1 : Nat) : Int) else if wdS z n (adT z n f) (strM 0) then iI ((0 : Nat) : Int) else (-1 : Int32)) = iI (match kiT z n (adT z n f) with | none => -1 | some q => (q : Int)) := by
        show (if wdS z n (adT z n f) "kick" then iI ((2 : Nat) : Int) else if wdS z n (adT z n f) "bowl" then iI ((1 : Nat) : Int) else if wdS z n (adT z n f) "even" then iI ((0 : Nat) : Int) else (-1 : Int32)) = _
        unfold kiT
        cases e0 : wdS z n (adT z n f) "even" with
        | true =>
          rw [(kx.1 e0).1, (kx.1 e0).2]; rfl
        | false =>
          cases e1 : wdS z n (adT z n f) "bowl" with
          | true => rw [kx.2 e1]; rfl
          | false =>
            cases e2 : wdS z n (adT z n f) "kick" with
            | true => rfl
            | false => exact m1_iI
      rw [hv]
      exact last
    refine word ?_
    cases hk : kiT z n (adT z n f) with
    | none =>
      rw [hk] at k
      refine bX11_readsPendulum_29 i1 ⟨fun _ => ⟨fun _ => ?_, fun w => absurd m1_iI.symm w⟩, fun w => absurd (by decide) w⟩
      refine mX11_need (b := false) i1 z1 hn4 l1.2 t1 q1 (fun w => (by cases w)) (fun _ g C F => ?_)
      refine pT66 (C.iv i1) F (by omega) (by omega) ?_ c4 (fun g' C' F' => k.2 g' 1 (adT z n f) rfl ((nm_mx ((sm_nm C1).tr C)).tr C') F')
      rw [C.2.2.2 83 21 rfl]; exact F1.1
    | some q =>
      rw [hk] at k
      have q2 : q ≤ 2 := by
        unfold kiT at hk
        repeat' split at hk
        all_goals first | (cases hk; omega) | cases hk
      have qm : ¬ iI (q : Int) = -1 := by rw [m1_iI, iI_eq ⟨by omega, by omega⟩ ⟨by decide, by decide⟩]; omega
      refine bX11_readsPendulum_29 i1 ⟨fun _ => ⟨fun w => absurd w qm, fun _ => ?_⟩, fun w => absurd (by decide) w⟩
      refine mX11_need (b := true) i1 z1 hn4 l1.2 t1 q1 (fun _ g2 C2' t2 q2' => ?_) (fun w => (by cases w))
      have C2 := C1.tr C2'
      have i2 := C2.iv hi
      have l2 := adT_b (z := z) (n := n) (f := adT z n f) l1.2
      have h21 : gI g2 83 21 = iI (s.1 : Nat) := by rw [C2.2.2.2 83 21 rfl]; exact a1
      refine bX11_readsPendulum_66 i2 ?_
      have r3 : gI (pI g2 91 s.1 (iI (q : Int))) 83 21 = iI (s.1 : Nat) := by rw [gI_pI, if_neg (by omega)]; exact h21
      rw [h21, ix_n (by omega), r3, show (2 : Int32) = iI 2 from by decide, show (40 : Int32) = iI 40 from by decide]
      refine ⟨in_n c4 (by omega), ?_⟩
      generalize hg3 : pI g2 91 s.1 (iI (q : Int)) = g3 at *
      have C3 : Cj myS h g3 := by rw [← hg3]; exact (sm_my C2).pI rfl _
      have i3 := C3.iv hi
      have z3 := ZM_c C3 my_89 hz
      have t3 : TM z n (adT z n (adT z n f)) g3 := by rw [← hg3]; exact TM_p (.inl (by omega)) t2
      have b3 : gI g3 83 10 = 0 := by rw [← hg3, gI_pI, if_neg (by omega)]; exact q2'
      refine mX11_number i3 z3 hn4 l2.2 t3 b3 (by omega) (by omega) (by omega) (fun g4 hw4 C4 t4 b4 => ?_) (fun g4 v hw4 C4 F4 => ?_)
      · have ra : rNu z n (adT z n (adT z n f)) 2 40 = .inr (nuV z n (adT z n (adT z n f)), adT z n (adT z n (adT z n f))) := by unfold rNu; rw [if_pos hw4]
        rw [ra] at k
        simp only [bnd] at k
        have i4 := C4.iv i3
        have l3 := adT_b (z := z) (n := n) (f := adT z n (adT z n f)) l2.2
        have r4 : gI g4 83 21 = iI (s.1 : Nat) := by rw [C4.2.2.2 83 21 rfl]; exact r3
        refine bX11_readsPendulum_91 i4 ?_
        have r5 : gI (pI g4 92 s.1 (iI (nuV z n (adT z n (adT z n f))))) 83 21 = iI (s.1 : Nat) := by rw [gI_pI, if_neg (by omega)]; exact r4
        rw [ix_n (by omega), r5, n_8, ad_n, show (0 : Int32) = iI 0 from by decide, show (90 : Int32) = iI 90 from by decide]
        refine ⟨in_n c4 (by omega), ?_⟩
        generalize hg5 : pI g4 92 s.1 (iI (nuV z n (adT z n (adT z n f)))) = g5 at *
        have C5 : Cj myS h g5 := by rw [← hg5]; exact (C3.tr (sm_my C4)).pI rfl _
        have i5 := C5.iv hi
        have t5 : TM z n (adT z n (adT z n (adT z n f))) g5 := by rw [← hg5]; exact TM_p (.inl (by omega)) t4
        have b5 : gI g5 83 10 = 0 := by rw [← hg5, gI_pI, if_neg (by omega)]; exact b4
        refine mX11_number i5 (ZM_c C5 my_89 hz) hn4 l3.2 t5 b5 (by omega) (by omega) (by omega) (fun g6 hw6 C6 t6 b6 => ?_) (fun g6 v hw6 C6 F6 => ?_)
        · have rb : rNu z n (adT z n (adT z n (adT z n f))) 0 90 = .inr (nuV z n (adT z n (adT z n (adT z n f))), adT z n (adT z n (adT z n (adT z n f)))) := by unfold rNu; rw [if_pos hw6]
          rw [rb] at k
          simp only at k
          have i6 := C6.iv i5
          have l4 := adT_b (z := z) (n := n) (f := adT z n (adT z n (adT z n f))) l3.2
          have r6 : gI g6 83 21 = iI (s.1 : Nat) := by rw [C6.2.2.2 83 21 rfl]; exact r5
          refine bX11_readsPendulum_110 i6 ?_
          have r7 : gI (pI g6 94 (8 + s.1) (iI (nuV z n (adT z n (adT z n (adT z n f)))))) 83 21 = iI (s.1 : Nat) := by rw [gI_pI, if_neg (by omega)]; exact r6
          rw [ix_n (by omega), r7, n_4, ad_n, show (0 : Int32) = iI 0 from by decide, show (99 : Int32) = iI 99 from by decide]
          refine ⟨in_n (by omega) (by omega), ?_⟩
          generalize hg7 : pI g6 94 (8 + s.1) (iI (nuV z n (adT z n (adT z n (adT z n f))))) = g7 at *
          have C7 : Cj myS h g7 := by rw [← hg7]; exact (C5.tr (sm_my C6)).pI rfl _
          have i7 := C7.iv hi
          have t7 : TM z n (adT z n (adT z n (adT z n (adT z n f)))) g7 := by rw [← hg7]; exact TM_p (.inl (by omega)) t6
          have b7 : gI g7 83 10 = 0 := by rw [← hg7, gI_pI, if_neg (by omega)]; exact b6
          generalize hp4 : adT z n (adT z n (adT z n (adT z n f))) = p4 at *
          refine mX11_number i7 (ZM_c C7 my_89 hz) hn4 l4.2 t7 b7 (by omega) (by omega) (by omega) (fun g8 hw8 C8 t8 b8 => ?_) (fun g8 v hw8 C8 F8 => ?_)
          · have rc : rNu z n p4 0 99 = .inr (nuV z n p4, adT z n p4) := by unfold rNu; rw [if_pos hw8]
            rw [rc] at k
            simp only at k
            have i8 := C8.iv i7
            have l5 := adT_b (z := z) (n := n) (f := p4) l4.2
            have r8 : gI g8 83 21 = iI (s.1 : Nat) := by rw [C8.2.2.2 83 21 rfl]; exact r7
            refine bX11_readsPendulum_128 i8 ?_
            have r9 : gI (pI g8 94 (4 + s.1) (iI (nuV z n p4))) 83 21 = iI (s.1 : Nat) := by rw [gI_pI, if_neg (by omega)]; exact r8
            rw [ix_n (by omega), r9, show (0 : Int32) = iI 0 from by decide, show (99 : Int32) = iI 99 from by decide]
            refine ⟨in_n (by omega) (by omega), ?_⟩
            generalize hg9 : pI g8 94 (4 + s.1) (iI (nuV z n p4)) = g9 at *
            have C9 : Cj myS h g9 := by rw [← hg9]; exact (C7.tr (sm_my C8)).pI rfl _
            have i9 := C9.iv hi
            have t9 : TM z n (adT z n p4) g9 := by rw [← hg9]; exact TM_p (.inl (by omega)) t8
            have b9 : gI g9 83 10 = 0 := by rw [← hg9, gI_pI, if_neg (by omega)]; exact b8
            refine mX11_number i9 (ZM_c C9 my_89 hz) hn4 l5.2 t9 b9 (by omega) (by omega) (by omega) (fun gA hwA CA tA bA => ?_) (fun gA v hwA CA FA => ?_)
            · have rd : rNu z n (adT z n p4) 0 99 = .inr (nuV z n (adT z n p4), adT z n (adT z n p4)) := by unfold rNu; rw [if_pos hwA]
              rw [rd] at k
              simp only at k
              have iA := CA.iv i9
              have rA : gI gA 83 21 = iI (s.1 : Nat) := by rw [CA.2.2.2 83 21 rfl]; exact r9
              refine bX11_readsPendulum_144 iA ?_
              rw [ix_n (by omega)]
              have bB : gI (pI gA 93 s.1 (iI (nuV z n (adT z n p4)))) 83 10 = 0 := by rw [gI_pI, if_neg (by omega)]; exact bA
              have rB : gI (pI gA 93 s.1 (iI (nuV z n (adT z n p4)))) 83 21 = iI (s.1 : Nat) := by rw [gI_pI, if_neg (by omega)]; exact rA
              refine ⟨in_n c4 (by omega), fun w => absurd bB (good_b.mp w), fun _ => ?_⟩
              rw [rB, n_1, ad_n]
              refine k.1 _ _ rfl (((C9.tr (sm_my CA)).pI rfl _).pI rfl _) (by rw [gI_pI, if_neg (by omega)]; exact bB) ⟨TM_p (.inr (by omega)) (TM_p (.inl (by omega)) tA), ?_⟩
              have nn : ∀ {a b : mH}, Cj smS a b → ∀ o j, (91 ≤ o ∧ o ≤ 95) ∨ (o = 83 ∧ 20 ≤ j) → gI b o j = gI a o j := fun hC o j ho => hC.2.2.2 o j (sm_95 o j ho)
              have fin : ∀ o j, (91 ≤ o ∧ o ≤ 95) ∨ (o = 83 ∧ 20 ≤ j) → gI (pI (pI gA 93 s.1 (iI (nuV z n (adT z n p4)))) 83 21 (iI ((s.1 + 1 : Nat) : Int))) o j = if o = 83 ∧ j = 21 then iI ((s.1 + 1 : Nat) : Int) else if o = 93 ∧ j = s.1 then iI (nuV z n (adT z n p4)) else if o = 94 ∧ j = 4 + s.1 then iI (nuV z n p4) else if o = 94 ∧ j = 8 + s.1 then iI (nuV z n (adT z n (adT z n (adT z n f)))) else if o = 92 ∧ j = s.1 then iI (nuV z n (adT z n (adT z n f))) else if o = 91 ∧ j = s.1 then iI (q : Int) else gI h o j := fun o j ho => by
                rw [gI_pI, gI_pI, nn CA o j ho, ← hg9, gI_pI, nn C8 o j ho, ← hg7, gI_pI, nn C6 o j ho, ← hg5, gI_pI, nn C4 o j ho, ← hg3, gI_pI, nn C2 o j ho]
              refine ⟨?_, ?_, ?_, fun y i hy hi4 => ?_, fun i hi12 => ?_, fun i hic => ⟨?_, fun ax hax => ?_⟩⟩
              · rw [fin 83 21 (by omega), if_pos ⟨rfl, rfl⟩]
              · rw [fin 83 22 (by omega), if_neg (by omega), if_neg (by omega), if_neg (by omega), if_neg (by omega), if_neg (by omega), if_neg (by omega)]
                exact a2
              · rw [fin 83 23 (by omega), if_neg (by omega), if_neg (by omega), if_neg (by omega), if_neg (by omega), if_neg (by omega), if_neg (by omega)]
                exact a0
              · rw [fin (91 + y) i (by omega), if_neg (by omega)]
                show _ = iI (upR (upR (upR (upR (upR s.2.2.2 0 s.1 q) 1 s.1 (nuV z n (adT z n (adT z n f)))) 3 (8 + s.1) (nuV z n (adT z n (adT z n (adT z n f))))) 3 (4 + s.1) (nuV z n p4)) 2 s.1 (nuV z n (adT z n p4)) y i)
                unfold upR
                rcases (show y = 0 ∨ y = 1 ∨ y = 2 from by omega) with rfl | rfl | rfl
                · by_cases ci : i = s.1
                  · simp [ci]
                  · simp [ci]
                    exact a3 0 i (by omega) hi4
                · by_cases ci : i = s.1
                  · simp [ci]
                  · simp [ci]
                    exact a3 1 i (by omega) hi4
                · by_cases ci : i = s.1
                  · simp [ci]
                  · simp [ci]
                    exact a3 2 i (by omega) hi4
              · rw [fin 94 i (by omega), if_neg (by omega), if_neg (by omega)]
                show _ = iI (upR (upR (upR (upR (upR s.2.2.2 0 s.1 q) 1 s.1 (nuV z n (adT z n (adT z n f)))) 3 (8 + s.1) (nuV z n (adT z n (adT z n (adT z n f))))) 3 (4 + s.1) (nuV z n p4)) 2 s.1 (nuV z n (adT z n p4)) 3 i)
                unfold upR
                by_cases c1 : i = 4 + s.1
                · simp [c1]
                · by_cases c2 : i = 8 + s.1
                  · subst c2
                    simp
                  · simp [c1, c2]
                    exact a4 i hi12
              · rw [fin 95 _ (by omega), if_neg (by omega), if_neg (by omega), if_neg (by omega), if_neg (by omega), if_neg (by omega), if_neg (by omega)]
                exact (a5 i hic).1
              · rw [fin 95 _ (by omega), if_neg (by omega), if_neg (by omega), if_neg (by omega), if_neg (by omega), if_neg (by omega), if_neg (by omega)]
                exact (a5 i hic).2 ax hax
            · have rd : rNu z n (adT z n p4) 0 99 = .inl (nuW z n (adT z n p4) 0 99, adT z n p4) := by unfold rNu; rw [if_neg hwA]
              rw [rd] at k
              exact pT144 (CA.iv i9) FA hwA (by have := nuW_b (z := z) (n := n) (f := adT z n p4) (lo := 0) (hi := 99); omega) c4 (fun g' C' F' => k.2 g' _ _ rfl (((my_mx C9).tr (nm_mx CA)).tr C') F')
          · have rc : rNu z n p4 0 99 = .inl (nuW z n p4 0 99, p4) := by unfold rNu; rw [if_neg hw8]
            rw [rc] at k
            exact pT128 (C8.iv i7) F8 hw8 (by have := nuW_b (z := z) (n := n) (f := p4) (lo := 0) (hi := 99); omega) (by rw [C8.2.2.2 83 21 rfl]; exact r7) c4 (fun g' C' F' => k.2 g' _ _ rfl (((my_mx C7).tr (nm_mx C8)).tr C') F')
        · have rb : rNu z n (adT z n (adT z n (adT z n f))) 0 90 = .inl (nuW z n (adT z n (adT z n (adT z n f))) 0 90, adT z n (adT z n (adT z n f))) := by unfold rNu; rw [if_neg hw6]
          rw [rb] at k
          exact pT110 (C6.iv i5) F6 hw6 (by have := nuW_b (z := z) (n := n) (f := adT z n (adT z n (adT z n f))) (lo := 0) (hi := 90); omega) (by rw [C6.2.2.2 83 21 rfl]; exact r5) c4 (fun g' C' F' => k.2 g' _ _ rfl (((my_mx C5).tr (nm_mx C6)).tr C') F')
      · have ra : rNu z n (adT z n (adT z n f)) 2 40 = .inl (nuW z n (adT z n (adT z n f)) 2 40, adT z n (adT z n f)) := by unfold rNu; rw [if_neg hw4]
        rw [ra] at k
        exact pT91 (C4.iv i3) F4 hw4 (by have := nuW_b (z := z) (n := n) (f := adT z n (adT z n f)) (lo := 2) (hi := 40); omega) (by rw [C4.2.2.2 83 21 rfl]; exact r3) c4 (fun g' C' F' => k.2 g' _ _ rfl (((my_mx C3).tr (nm_mx C4)).tr C') F')
  · rw [if_pos (by omega)] at k
    rw [n_2]
    refine mX11_wrong hi hg ht.2.2.2.1 (fun g C F => bX11_readsPendulum_13 (C.iv hi) ⟨fun w => absurd (good_b.mpr (FM_bad F (by omega) (by omega))) w, fun _ => k.2 g 2 f rfl (nm_mx (wg_nm C)) F⟩)
end SWM
