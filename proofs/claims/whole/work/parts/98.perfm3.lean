section PERFM3
variable {G : GX} {h : mH} {Q : mO → mH → Prop}
def wlM (h : mH) : WL := (fun p => if p < 4 then (gI h 84 p).toInt else 0, fun p => if p < 4 then (gI h 85 p).toInt else 0, fun p => if p < 4 then (gI h 86 p).toInt else 0, (gI h 83 2).toInt.toNat, fun i => if i < (gI h 83 2).toInt.toNat then (gI h 88 (3 * i)).toInt else 0, fun i a => if i < (gI h 83 2).toInt.toNat ∧ a < 2 then (gI h 88 (3 * i + 1 + a)).toInt else 0)
def stM (h : mH) : Nat → Int := fun i => if i < 12 then (gI h 87 i).toInt else 0
theorem wlM_R (hm : MR h 87 0) (hc : CM h) : WR (wlM h) ∧ StR (stM h) := by
  refine ⟨⟨fun p hp => ?_, ?_, fun i hi => ?_⟩, fun p hp => ?_⟩
  · obtain ⟨a1, a2, a3, _⟩ := hm p hp
    unfold wlM
    simp only
    rw [if_pos hp, if_pos hp, if_pos hp]
    exact ⟨a1, a2, a3⟩
  · have := hc.1
    unfold rg at this
    show (gI h 83 2).toInt.toNat ≤ 4
    omega
  · have hi' : i < (gI h 83 2).toInt.toNat := hi
    obtain ⟨a1, a2⟩ := hc.2 i hi'
    unfold wlM
    simp only
    rw [if_pos hi']
    refine ⟨a1, fun a ha => ?_⟩
    rw [if_pos ⟨hi', ha⟩]
    exact a2 a ha
  · obtain ⟨_, _, _, a4, a5, a6⟩ := hm p hp
    rw [Nat.zero_add] at a4 a5 a6
    unfold stM
    rw [if_pos (by omega), if_pos (by omega), if_pos (by omega)]
    exact ⟨a4, a5, a6⟩
theorem mX11_performs {sc : PF} (hi : Iv h) (hF : WF sc) (hL : LN sc) (hK : FK sc h) (hm : MR h 87 0) (hc : CM h)
    (k : ∀ g, Ce pmS h g → OuM sc.2.1 sc.1 (wlM h) (plP (wlM h) sc (stM h)) g → Q (.inl none) g) : WM G jX11_performs [.ref 83] h Q := by
  obtain ⟨wr, sr⟩ := wlM_R hm hc
  refine eX11_performs hi ?_
  have go : ∀ g1, Sm (fun o => o == 109) h g1 → (∀ c, c < 729 → gI g1 109 c = 0) → WM G jX11_copies [.ref 83, .ref 87, .ref 110] g1 (Aft G jX11_performs 31 [some (.ref 83), none, none, none, none] [] Q) := fun g1 S1 E1 => by
    have i1 := S1.iv hi
    refine mX11_copies (n := 12) i1 rfl rfl (by omega) (by omega) (fun g2 S2 E2 => ?_)
    have i2 := S2.iv i1
    refine bX11_performs_34 i2 ?_
    generalize hg3 : pI (pI (pI (pI g2 83 51 0) 83 52 0) 83 53 0) 83 54 0 = g3
    have C3 : Ce pmS h g3 := by
      rw [← hg3]
      refine Ce.pI (Ce.pI (Ce.pI (Ce.pI (Ce.tr (Ce.sm S1 (fun o k ho => ?_)) (Ce.sm S2 (fun o k ho => ?_))) rfl _) rfl _) rfl _) rfl _
      · unfold pmS at ho
        simp at ho ⊢
        omega
      · unfold pmS at ho
        simp at ho ⊢
        omega
    have e51 : gI g3 83 51 = 0 := by rw [← hg3]; simp [gI_pI]
    have e52 : gI g3 83 52 = 0 := by rw [← hg3]; simp [gI_pI]
    have e53 : gI g3 83 53 = 0 := by rw [← hg3]; simp [gI_pI]
    have e54 : gI g3 83 54 = 0 := by rw [← hg3]; simp [gI_pI]
    have w3 : ∀ o k, o ≠ 83 → gI g3 o k = gI g2 o k := fun o k ho => by
      rw [← hg3, gI_pI, if_neg (by omega), gI_pI, if_neg (by omega), gI_pI, if_neg (by omega), gI_pI, if_neg (by omega)]
    clear hg3
    have e109 : ∀ c, c < 729 → gI g3 109 c = 0 := fun c hc => by
      rw [w3 109 c (by omega), S2.gI (o := 109) rfl]
      exact E1 c hc
    have e110 : ∀ i, i < 12 → gI g3 110 i = gI h 87 i := fun i hi => by
      rw [w3 110 i (by omega), E2 i hi, S1.gI (o := 87) rfl]
    have ot : ∀ o k, (o = 83 ∧ k = 2) ∨ (84 ≤ o ∧ o ≤ 88) → gI g3 o k = gI h o k := fun o k ho => C3.2.2 o k (by unfold pmS; simp; omega)
    have Y3 : WY (wlM h) (stM h) g3 := by
      refine ⟨fun p hp => ?_, ?_, fun i hi => ?_, fun i hi => ?_⟩
      · unfold wlM
        simp only
        rw [if_pos hp, if_pos hp, if_pos hp, iI_self, iI_self, iI_self]
        exact ⟨ot 84 p (by omega), ot 85 p (by omega), ot 86 p (by omega)⟩
      · rw [ot 83 2 (by omega)]
        have := hc.1
        unfold rg at this
        show gI h 83 2 = iI (((gI h 83 2).toInt.toNat : Nat) : Int)
        rw [show (((gI h 83 2).toInt.toNat : Nat) : Int) = (gI h 83 2).toInt from by omega, iI_self]
      · have hi' : i < (gI h 83 2).toInt.toNat := hi
        unfold wlM
        simp only
        rw [if_pos hi', iI_self]
        refine ⟨ot 88 _ (by omega), fun a ha => ?_⟩
        rw [if_pos ⟨hi', ha⟩, iI_self]
        exact ot 88 _ (by omega)
      · unfold stM
        rw [if_pos hi, iI_self]
        exact e110 i hi
    have i3 := C3.iv hi
    have K3 : FK sc g3 := FK_c (fun k => C3.2.2 104 k rfl) hK
    have ph0 : phP sc.2.1 sc.1 (0, 0, 0, false, stM h, fun _ => 0, fun _ => 0) < 1000000 := by
      unfold phP
      simp only
      show 34 * (21 * (1000 - 0)) + 34 * 0 + (33 - eV sc.2.1 0) < 1000000
      omega
    have lp := mX11_loop (G := G) (Q := Q) (x := plP (wlM h) sc (stM h)) g3 i3 wr hF hL K3 (fun g C O => k g (C3.tr C) O) 1000000 (0, 0, 0, false, stM h, fun _ => 0, fun _ => 0) g3 ph0 Ce.rf ⟨Nat.zero_le _, Nat.zero_le _, Nat.zero_le _, sr, fun _ => Nat.le_refl _, fun o ho => by cases ho⟩ ⟨Y3, by rw [e51]; exact n_0, by rw [e52]; exact n_0, e53, e54, fun c hc => by rw [e109 c hc]; exact n_0⟩ trivial rfl
    rw [n_0]
    exact lp
  have loop : ∀ (dd c : Nat) (g : mH), c + dd = 729 → Sm (fun o => o == 109) h g → (∀ x, x < c → gI g 109 x = 0) → Vw G jX11_performs 2 [some (.ref 83), some (.int (iI (c : Nat))), none, none, none] [] g Q := by
    intro dd
    induction dd with
    | zero =>
      intro c g hc S E
      have : c = 729 := by omega
      subst this
      exact bX11_performs_2 (S.iv hi) ⟨fun _ => go g S E, fun w => absurd (by rw [n_729]; exact Int32.le_refl _) w⟩
    | succ dd ih =>
      intro c g hc S E
      refine bX11_performs_2 (S.iv hi) ⟨fun w => ?_, fun _ => ⟨in_n (by omega) (by omega), ?_⟩⟩
      · rw [n_729, le_n (by omega) (by omega)] at w
        omega
      · rw [ix_n (by omega), n_1, ad_n]
        refine ih (c + 1) _ (by omega) (S.pI rfl _ _) (fun x hx => ?_)
        rw [gI_pI]
        by_cases e : x = c
        · rw [if_pos ⟨rfl, e⟩]
        · rw [if_neg (fun w => e w.2)]
          exact E x (by omega)
  rw [n_0]
  exact loop 729 0 h (by omega) Sm.rf (fun x hx => by omega)
def pnS (o k : Nat) : Bool := pmS o k || (o == 83 && (k == 0))
theorem pm_pn {a b : mH} (h : Ce pmS a b) : Ce pnS a b := h.wk (fun o k ho => by unfold pnS at ho; rw [Bool.or_eq_false_iff] at ho; exact ho.1)
theorem wlM_p {v : Int32} : wlM (pI h 83 0 v) = wlM h ∧ stM (pI h 83 0 v) = stM h := by
  have e : ∀ o k, (o = 83 → k ≠ 0) → gI (pI h 83 0 v) o k = gI h o k := fun o k ho => by rw [gI_pI, if_neg (fun w => ho w.1 w.2)]
  have r : ∀ o, o ≠ 83 → ∀ k, gI (pI h 83 0 v) o k = gI h o k := fun o ho k => e o k (fun w => absurd w ho)
  constructor
  · unfold wlM
    simp only [r 84 (by omega), r 85 (by omega), r 86 (by omega), r 88 (by omega), e 83 2 (by omega)]
  · unfold stM
    simp only [r 87 (by omega)]
theorem mX11_perf0 {sc : PF} (hi : Iv h) (hF : WF sc) (hL : LN sc) (hK : FK sc h) (hm : MR h 87 0) (hc : CM h)
    (k : ∀ g, Ce pnS h g → gI g 83 0 = 0 → OuM sc.2.1 sc.1 (wlM h) (plP (wlM h) sc (stM h)) g → Q (.inl none) g) : WM G jX11_performs [.ref 83] (pI h 83 0 0) Q := by
  have e : ∀ o k, (o = 83 → k ≠ 0) → gI (pI h 83 0 0) o k = gI h o k := fun o k ho => by rw [gI_pI, if_neg (fun w => ho w.1 w.2)]
  have C0 : Ce pnS h (pI h 83 0 0) := Ce.rf.pI rfl _
  refine mX11_performs (sc := sc) (show Iv (pI h 83 0 0) from hi) hF hL (FK_c (fun k => e 104 k (by omega)) hK) ?_ ?_ (fun g C O => k g (C0.tr (pm_pn C)) ?_ ?_)
  · intro p hp
    have := hm p hp
    unfold PnR at this ⊢
    rw [e 84 _ (by omega), e 85 _ (by omega), e 86 _ (by omega), e 87 _ (by omega), e 87 _ (by omega), e 87 _ (by omega)]
    exact this
  · exact CM_rows (e 83 2 (by omega)) (fun k => e 88 k (by omega)) hc
  · rw [C.2.2 83 0 rfl, gI_pI, if_pos ⟨rfl, rfl⟩]
  · rw [wlM_p.1, wlM_p.2] at O
    exact O
theorem mX11_performed {v : Int32} {sc : PF} (hi : Iv h) (hF : WF sc) (hL : LN sc) (hK : FK sc h) (hm : MR h 87 0) (hc : CM h)
    (kN : ¬ (0 ≤ v.toInt ∧ v.toInt ≤ 3) → Q (.inl (some (.int 0))) (pI (pI h 83 0 0) 83 0 1))
    (k : ∀ g, (0 ≤ v.toInt ∧ v.toInt ≤ 3) → Ce pnS h g → gI g 83 0 = 0 → Q (.inl (some (.int (iI (pfV (wlM h) (plP (wlM h) sc (stM h)) v))))) g) : WM G jX11_performed [.ref 83, .int v] h Q := by
  obtain ⟨wr, sr⟩ := wlM_R hm hc
  have hi0 : Iv (pI h 83 0 0) := hi
  have h00 : gI (pI h 83 0 0) 83 0 = 0 := by rw [gI_pI]; rfl
  refine eX11_performed hi ?_
  rw [show fX11_within v 0 3 = bI (0 ≤ v.toInt ∧ v.toInt ≤ 3) from within_b (a := 0) (b := 3) ⟨by decide, by decide⟩ ⟨by decide, by decide⟩]
  refine mX11_right hi0 h00 (by decide) (fun hv => ?_) (fun hv => bX11_performed_16 (h := pI (pI h 83 0 0) 83 0 1) hi ⟨fun z => absurd rfl z, fun _ => kN hv⟩)
  refine bX11_performed_16 hi0 ⟨fun _ => mX11_perf0 hi hF hL hK hm hc (fun g C g0 O => ?_), fun z => absurd z (by decide)⟩
  have gi := C.iv hi
  have k' := k g hv C g0
  refine bX11_performed_25 gi ?_
  cases hx : plP (wlM h) sc (stM h) with
  | none =>
    rw [hx] at O k'
    have o5 : gI g 83 54 = 1 := O
    rw [o5]
    exact ⟨fun w => absurd w (by decide), fun _ => k'⟩
  | some s =>
    rw [hx] at O k'
    obtain ⟨I, P⟩ := O
    obtain ⟨x, a, b4, d, c, e⟩ := id P
    rw [c]
    refine ⟨fun _ => ?_, fun w => absurd rfl w⟩
    unfold pfV at k'
    simp only at k'
    have loop : ∀ (dd j : Nat), j + dd = 729 → Vw G jX11_performed 39 [some (.ref 83), some (.int v), some (.int (iI (cnt (fun c => decide (0 < s.2.2.2.2.2.1 c)) j : Nat))), some (.int (iI (j : Nat)))] [] g Q := by
      intro dd
      induction dd with
      | zero =>
        intro j hj
        have : j = 729 := by omega
        subst this
        refine bX11_performed_39 gi ⟨fun _ => ⟨fun w0 => ⟨fun w1 => ⟨fun w2 => ?_, fun w2 => ?_⟩, fun w1 => ?_⟩, fun w0 => ?_⟩, fun w => absurd (by rw [n_729]; exact Int32.le_refl _) w⟩
        · rw [if_neg w0, if_neg w1, if_neg w2] at k'
          have p3 := I.2.2.1
          exact mX11_cellGoing gi wr I.2.2.2.1 x (by omega) b4 d (bX11_performed_105 gi k')
        · rw [if_neg w0, if_neg w1, if_pos w2] at k'
          rw [b4]
          exact bX11_performed_105 gi k'
        · rw [if_neg w0, if_pos w1] at k'
          exact bX11_performed_105 gi k'
        · rw [if_pos w0] at k'
          rw [a]
          exact bX11_performed_105 gi k'
      | succ dd ih =>
        intro j hj
        have mj := I.2.2.2.2.1 j
        have p3 := I.2.2.1
        have cl := cnt_le (fun c => decide (0 < s.2.2.2.2.2.1 c)) j
        have nxt := ih (j + 1) (by omega)
        refine bX11_performed_39 gi ⟨fun w => ?_, fun _ => ⟨in_n (by omega) (by omega), ?_⟩⟩
        · rw [n_729, le_n (by omega) (by omega)] at w
          omega
        · rw [ix_n (by omega), e j (by omega), n_0, n_1, le_n (by omega) (by omega), ad_n, ad_n, ad_n]
          have cs : cnt (fun c => decide (0 < s.2.2.2.2.2.1 c)) (j + 1) = cnt (fun c => decide (0 < s.2.2.2.2.2.1 c)) j + (if decide (0 < s.2.2.2.2.2.1 j) then 1 else 0) := rfl
          rw [cs] at nxt
          refine ⟨fun w => ?_, fun w => ?_⟩
          · rw [decide_eq_false (show ¬ 0 < s.2.2.2.2.2.1 j by omega)] at nxt
            exact nxt
          · rw [decide_eq_true (show 0 < s.2.2.2.2.2.1 j by omega)] at nxt
            exact nxt
    have := loop 729 0 (by omega)
    rw [n_0]
    exact this
theorem mX11_marks {v : Int32} {sc : PF} (hi : Iv h) (hF : WF sc) (hL : LN sc) (hK : FK sc h) (hm : MR h 87 0) (hc : CM h)
    (kN : ¬ (0 ≤ v.toInt ∧ v.toInt ≤ 728) → Q (.inl (some (.int 0))) (pI (pI h 83 0 0) 83 0 1))
    (k : ∀ g, (0 ≤ v.toInt ∧ v.toInt ≤ 728) → Ce pnS h g → gI g 83 0 = 0 → Q (.inl (some (.int (iI (mkV (plP (wlM h) sc (stM h)) v.toInt.toNat))))) g) : WM G jX11_marks [.ref 83, .int v] h Q := by
  obtain ⟨wr, sr⟩ := wlM_R hm hc
  have hi0 : Iv (pI h 83 0 0) := hi
  have h00 : gI (pI h 83 0 0) 83 0 = 0 := by rw [gI_pI]; rfl
  refine eX11_marks hi ?_
  rw [show fX11_within v 0 728 = bI (0 ≤ v.toInt ∧ v.toInt ≤ 728) from within_b (a := 0) (b := 728) ⟨by decide, by decide⟩ ⟨by decide, by decide⟩]
  refine mX11_right hi0 h00 (by decide) (fun hv => ?_) (fun hv => bX11_marks_18 (h := pI (pI h 83 0 0) 83 0 1) hi ⟨fun z => absurd rfl z, fun _ => kN hv⟩)
  refine bX11_marks_18 hi0 ⟨fun _ => mX11_perf0 hi hF hL hK hm hc (fun g C g0 O => ?_), fun z => absurd z (by decide)⟩
  have gi := C.iv hi
  have k' := k g hv C g0
  have ev := i32_nat hv.1
  refine bX11_marks_27 gi ?_
  cases hx : plP (wlM h) sc (stM h) with
  | none =>
    rw [hx] at O k'
    have o5 : gI g 83 54 = 1 := O
    rw [o5]
    exact ⟨fun w => absurd w (by decide), fun _ => k'⟩
  | some s =>
    rw [hx] at O k'
    obtain ⟨I, P⟩ := O
    obtain ⟨x, a, b4, d, c, e⟩ := id P
    rw [c]
    refine ⟨fun _ => ?_, fun w => absurd rfl w⟩
    generalize hn : v.toInt.toNat = n at *
    subst ev
    have n729 : n < 729 := by omega
    rw [ix_n (by omega), e n n729]
    exact ⟨in_n n729 (by omega), k'⟩
end PERFM3
