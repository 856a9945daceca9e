section PERFC4
variable {G : GX} {h : mH} {Q : mO → mH → Prop} {W : WL}
/-- thing r holds a score's steps -/
def SRw (r : Nat) (sc : PF) (g : mH) : Prop := gI g r 4 = iI (sc.1 : Nat) ∧ ∀ a i, a < 4 → i < sc.1 → gI g (r + 1 + a) i = iI (sc.2.1 a i)
def RpC (R : Nat → Nat → Int) (i : Nat) (rp : Nat → Int) (g : mH) : Prop := ∀ o, o ∈ rpV R i → gI g 67 o = iI (rp o)
def pfS (o k : Nat) : Bool := drS o k || (o == 67)
theorem dr_pf {a b : mH} (h : Ce drS a b) : Ce pfS a b := h.wk (fun o k ho => by unfold pfS at ho; rw [Bool.or_eq_false_iff] at ho; exact ho.1)
theorem SRw_c {r : Nat} {sc : PF} {g g' : mH} (hr : r = 43 ∨ r = 49) (hC : Ce pfS g g') (hR : SRw r sc g) : SRw r sc g' := by
  have q : ∀ o k, 43 ≤ o → o ≤ 54 → gI g' o k = gI g o k := fun o k h1 h2 => hC.2.2 o k (by unfold pfS drS; simp; omega)
  exact ⟨by rw [q r 4 (by omega) (by omega)]; exact hR.1, fun a i ha hi => by rw [q _ _ (by omega) (by omega)]; exact hR.2 a i ha hi⟩
theorem CPr_67 {b t k : Nat} {u : Bool} {st : Nat → Int} {m : Nat → Nat} {v : Int32} {g : mH} (hP : CPr W b t u st m g) : CPr W b t u st m (pI g 67 k v) := by
  obtain ⟨x, a, b4, c, d, e⟩ := hP
  refine ⟨WX_p x 67 (.inr (by omega)), ?_, ?_, ?_, ?_, MkC_c (fun k => by rw [gI_pI, if_neg (by omega)]) (by rw [gI_pI, if_neg (by omega)]) e⟩
  · rw [gI_pI, if_neg (by omega)]; exact a
  · rw [gI_pI, if_neg (by omega)]; exact b4
  · rw [gI_pI, if_neg (by omega)]; exact c
  · rw [gI_pI, if_neg (by omega)]; exact d
theorem mX6_goesAside {r i b t : Nat} {u : Bool} {st : Nat → Int} {m : Nat → Nat} {rp : Nat → Int} {sc : PF} (hi : Iv h) (hr : r = 43 ∨ r = 49) (kr : kd r = (7, 7)) (hW : WR W) (hF : WF sc) (hI : PI sc.2.1 sc.1 (i, b, t, u, st, m, rp)) (his : i < sc.1) (hR : SRw r sc h) (hb : sc.2.1 0 i ≤ 6 → b < 1000) (hP : CPr W (b + (if sc.2.1 0 i ≤ 6 then 1 else 0)) t u st m h) (hC : RpC sc.2.1 i rp h)
    (k1 : ∀ g v s', stP W sc.2.1 (i, b, t, u, st, m, rp) = some s' → Ce pfS h g → CPr W s'.2.1 s'.2.2.1 s'.2.2.2.1 s'.2.2.2.2.1 s'.2.2.2.2.2.1 g → RpC sc.2.1 s'.1 s'.2.2.2.2.2.2 g → (v = 0 ∧ s'.1 = i + 1) ∨ (v = 1 ∧ s'.1 = (sc.2.1 3 i).toNat) → Q (.inl (some (.int v))) g)
    (k0 : ∀ g v, stP W sc.2.1 (i, b, t, u, st, m, rp) = none → Ce pfS h g → FdOk g 56 → gI g 55 5 = 1 → Q (.inl (some (.int v))) g) : WM G jX6_goesAside [.ref 55, .ref r, .int (iI (i : Nat))] h Q := by
  obtain ⟨w100, wO, ⟨wn, wj, wg, _, _⟩, _, we⟩ := hF
  rw [wO] at wj
  obtain ⟨p1, p2, p3, p4, p5, p6⟩ := hI
  simp only at p1 p2 p3 p4 p5 p6
  obtain ⟨⟨n0, n8⟩, n1, n2, n5, n6⟩ := wn i his
  have r0 : gI h (r + 1) i = iI (sc.2.1 0 i) := hR.2 0 i (by omega) his
  have r1 : gI h (r + 2) i = iI (sc.2.1 1 i) := hR.2 1 i (by omega) his
  have r2 : gI h (r + 3) i = iI (sc.2.1 2 i) := hR.2 2 i (by omega) his
  generalize hRR : sc.2.1 = R at *
  unfold stP at k1 k0
  simp only at k1 k0
  have i100 : i < 100 := by omega
  have vq : ∀ c : Int, 0 ≤ c → c ≤ 10 → (iI (R 0 i) = iI c ↔ R 0 i = c) := fun c h1 h2 => iI_eq ⟨by omega, by omega⟩ ⟨by omega, by omega⟩
  have q0 : iI (R 0 i) = 0 ↔ R 0 i = 0 := vq 0 (by omega) (by omega)
  have q1 : iI (R 0 i) = 1 ↔ R 0 i = 1 := vq 1 (by omega) (by omega)
  have q2 : iI (R 0 i) = 2 ↔ R 0 i = 2 := vq 2 (by omega) (by omega)
  have q3 : iI (R 0 i) = 3 ↔ R 0 i = 3 := vq 3 (by omega) (by omega)
  have q4 : iI (R 0 i) = 4 ↔ R 0 i = 4 := vq 4 (by omega) (by omega)
  have q5 : iI (R 0 i) = 5 ↔ R 0 i = 5 := vq 5 (by omega) (by omega)
  have q6 : iI (R 0 i) = 6 ↔ R 0 i = 6 := vq 6 (by omega) (by omega)
  have q7 : iI (R 0 i) = 7 ↔ R 0 i = 7 := vq 7 (by omega) (by omega)
  have nx : R 0 i ≠ 5 → R 0 i ≠ 7 → rpV R (i + 1) = rpV R i := fun h5 h7 => by rw [rpV_s, if_neg h5, if_neg h7]
  have keep : ∀ {g : mH}, Ce drS h g → R 0 i ≠ 5 → R 0 i ≠ 7 → RpC R (i + 1) rp g := fun C h5 h7 o ho => by
    rw [nx h5 h7] at ho
    rw [C.2.2 67 o rfl]
    exact hC o ho
  refine eX6_goesAside hi kr ?_
  rw [ix_n (by omega), r0, r1, r2, q0, q1, q2, q3, q4, q5, q6, q7]
  have nat : 0 ≤ R 1 i → iI (R 1 i) = iI (((R 1 i).toNat : Nat) : Int) := fun h => by congr 1; omega
  -- what an act comes to
  have act : R 0 i ≤ 6 → stP W R (i, b, t, u, st, m, rp) = acP W R i b t u st m rp := fun h6 => by
    unfold stP
    simp only
    rw [if_neg (by omega), if_neg (by omega), if_neg (by have := hb h6; omega)]
  have k1' := fun g v s' (e : stP W R (i, b, t, u, st, m, rp) = some s') => k1 g v s' e
  have k0' := fun g v (e : stP W R (i, b, t, u, st, m, rp) = none) => k0 g v e
  clear k1 k0
  refine ⟨in_n i100 (by omega), in_n i100 (by omega), fun c => ?_, fun c => ?_, fun c => ?_, fun c => ?_, fun c => ?_, fun c => ?_, fun c => ?_, fun c => ?_, fun c0 c1 c2 c3 c4 c5 c6 c7 => ?_⟩
  · have nb := n1 (by omega)
    have ea := act (by omega)
    unfold acP at ea
    rw [if_pos c] at ea
    rw [if_pos (by omega)] at hP
    rw [nat (by omega)]
    refine mX6_draw hi hW p4 hP p3 (by omega) p5 (fun g ht C P => ?_) (fun g ht C fd g5 => ?_)
    · rw [if_neg (by omega)] at ea
      exact bX6_goesAside_65 (C.iv hi) (k1' g 0 _ ea (dr_pf C) P (keep C (by omega) (by omega)) (.inl ⟨rfl, rfl⟩))
    · rw [if_pos ht] at ea
      exact bX6_goesAside_65 (C.iv hi) (k0' g 0 ea (dr_pf C) fd g5)
  · have nb := n1 (by omega)
    have ea := act (by omega)
    unfold acP at ea
    rw [if_neg (by omega), if_pos c] at ea
    rw [if_pos (by omega)] at hP
    rw [nat (by omega)]
    refine mX6_lift hi hP p3 (by omega) (fun g ht C P => ?_) (fun g ht C fd g5 => ?_)
    · rw [if_neg (by omega)] at ea
      exact bX6_goesAside_72 (C.iv hi) (k1' g 0 _ ea (dr_pf C) P (keep C (by omega) (by omega)) (.inl ⟨rfl, rfl⟩))
    · rw [if_pos ht] at ea
      exact bX6_goesAside_72 (C.iv hi) (k0' g 0 ea (dr_pf C) fd g5)
  · have nb := n2 (.inl c)
    have ea := act (by omega)
    unfold acP at ea
    rw [if_neg (by omega), if_neg (by omega), if_pos c] at ea
    rw [if_pos (by omega)] at hP
    rw [nat (by omega), show (9 : Int32) = iI 9 from by decide]
    refine ⟨in_n i100 (by omega), mX6_alter hi p4 hP (by omega) nb.2 (by omega) (fun g C P => ?_)⟩
    exact bX6_goesAside_87 (C.iv hi) (k1' g 0 _ ea (dr_pf C) P (keep C (by omega) (by omega)) (.inl ⟨rfl, rfl⟩))
  · have nb := n2 (.inr c)
    have ea := act (by omega)
    unfold acP at ea
    rw [if_neg (by omega), if_neg (by omega), if_neg (by omega), if_pos c] at ea
    rw [if_pos (by omega)] at hP
    rw [nat (by omega), n_8, ad_n, show (90 : Int32) = iI 90 from by decide]
    refine ⟨in_n i100 (by omega), mX6_alter hi p4 hP (by omega) nb.2 (by omega) (fun g C P => ?_)⟩
    exact bX6_goesAside_105 (C.iv hi) (k1' g 0 _ ea (dr_pf C) P (keep C (by omega) (by omega)) (.inl ⟨rfl, rfl⟩))
  · have ea := act (by omega)
    unfold acP at ea
    rw [if_neg (by omega), if_neg (by omega), if_neg (by omega), if_neg (by omega), if_pos c] at ea
    rw [if_pos (by omega)] at hP
    obtain ⟨x, a, b4, c5, d, e⟩ := hP
    have tu : ∀ v, v = bL (!u) → CPr W (b + 1) t (!u) st m (pI h 55 6 v) := fun v hv => by
      refine ⟨WX_p x 55 (.inl rfl), ?_, ?_, ?_, ?_, MkC_c (fun k => by rw [gI_pI, if_neg (by omega)]) (by rw [gI_pI, if_neg (by omega)]) e⟩
      · rw [gI_pI, if_neg (by omega)]; exact a
      · rw [gI_pI, if_neg (by omega)]; exact b4
      · rw [gI_pI, if_neg (by omega)]; exact c5
      · rw [gI_pI, if_pos ⟨rfl, rfl⟩]; exact hv
    rw [d]
    refine ⟨fun w => ?_, fun w => ?_⟩
    · rw [bL_1] at w
      have C : Ce drS h (pI h 55 6 0) := Ce.rf.pI rfl _
      exact k1' _ 0 _ ea (dr_pf C) (tu 0 (by rw [w]; rfl)) (keep C (by omega) (by omega)) (.inl ⟨rfl, rfl⟩)
    · rw [bL_0] at w
      have C : Ce drS h (pI h 55 6 1) := Ce.rf.pI rfl _
      exact k1' _ 0 _ ea (dr_pf C) (tu 1 (by rw [w]; rfl)) (keep C (by omega) (by omega)) (.inl ⟨rfl, rfl⟩)
  · have nb := n5 c
    have ea := act (by omega)
    unfold acP at ea
    rw [if_neg (by omega), if_neg (by omega), if_neg (by omega), if_neg (by omega), if_neg (by omega), if_pos c] at ea
    rw [if_pos (by omega)] at hP
    have C : Ce pfS h (pI h 67 i (iI (R 1 i))) := Ce.rf.pI rfl _
    have z0 : iI (R 1 i) = 0 ↔ R 1 i = 0 := by rw [show (0 : Int32) = iI 0 from by decide, iI_eq ⟨by omega, by omega⟩ ⟨by decide, by decide⟩]
    have oth : ∀ o, o ∈ rpV R i → gI (pI h 67 i (iI (R 1 i))) 67 o = iI (upI rp i (R 1 i) o) := fun o ho => by
      have := rpV_lt i o ho
      unfold upI
      rw [gI_pI, if_neg (by omega), if_neg (by omega)]
      exact hC o ho
    rw [z0]
    refine ⟨in_n i100 (by omega), fun w => ?_, fun w => ?_⟩
    · rw [if_neg w] at ea
      refine k1' _ 0 _ ea C (CPr_67 hP) (fun o ho => ?_) (.inl ⟨rfl, rfl⟩)
      simp only at ho ⊢
      rw [rpV_s, if_pos c] at ho
      rcases List.mem_cons.mp ho with e | ho
      · rw [e, gI_pI, if_pos ⟨rfl, rfl⟩]
        unfold upI
        rw [if_pos rfl]
      · exact oth o ho
    · rw [if_pos w] at ea
      refine k1' _ 1 _ ea C (CPr_67 hP) (fun o ho => ?_) (.inr ⟨rfl, rfl⟩)
      simp only at ho ⊢
      obtain ⟨j, a1, a2, a3, a4⟩ := wj i his (by simp) (.inl c)
      rw [a1, Int.toNat_natCast, a4] at ho
      exact oth o ho
  · have nb := n6 c
    have ea := act (by omega)
    unfold acP at ea
    rw [if_neg (by omega), if_neg (by omega), if_neg (by omega), if_neg (by omega), if_neg (by omega), if_neg (by omega)] at ea
    rw [if_pos (by omega)] at hP
    refine mX6_holds hi hW p4 hP p3 p5 (by omega) (by omega) (fun g S X => ?_)
    have P := CPr_S S X hP
    have C := cr_dr S
    have R2 : gI g (r + 3) i = iI (R 2 i) := by rw [S.gI (cr_o (by omega))]; exact r2
    have z2 : iI (R 2 i) = 0 ↔ R 2 i = 0 := by rw [show (0 : Int32) = iI 0 from by decide, iI_eq ⟨by omega, by omega⟩ ⟨by decide, by decide⟩]
    obtain ⟨j, a1, a2, a3, a4⟩ := wj i his (by simp) (.inr (.inl c))
    have jk : RpC R (R 3 i).toNat rp g := fun o ho => by
      rw [a1, Int.toNat_natCast, a4] at ho
      rw [C.2.2 67 o rfl]
      exact hC o ho
    have stay : hoW W st u t m (R 1 i) = decide (R 2 i = 0) → Q (.inl (some (.int 0))) g := fun e => by
      rw [if_pos e] at ea
      exact k1' g 0 _ ea (dr_pf C) P (keep C (by omega) (by omega)) (.inl ⟨rfl, rfl⟩)
    have go : ¬ hoW W st u t m (R 1 i) = decide (R 2 i = 0) → Q (.inl (some (.int 1))) g := fun e => by
      rw [if_neg e] at ea
      exact k1' g 1 _ ea (dr_pf C) P jk (.inr ⟨rfl, rfl⟩)
    refine bX6_goesAside_147 (S.iv hi) kr ?_
    rw [ix_n (by omega), R2, z2]
    have b1 : ∀ x : Bool, bL x = 1 ↔ x = true := fun x => by cases x <;> decide
    refine ⟨in_n i100 (by omega), fun w => ⟨fun y => ?_, fun y => ?_⟩, fun w => ⟨fun y => ?_, fun y => ?_⟩⟩
    · rw [bL_0] at y
      exact stay (by rw [y, decide_eq_false w])
    · rw [bL_1] at y
      exact go (by rw [y, decide_eq_false w]; decide)
    · rw [b1] at y
      exact stay (by rw [y, decide_eq_true w])
    · rw [b1] at y
      exact go (by rw [decide_eq_true w]; exact y)
  · rw [if_neg (by omega), Nat.add_zero] at hP
    obtain ⟨o, g1, g2, g3, g4, g5⟩ := wg i his c
    have ea : stP W R (i, b, t, u, st, m, rp) = some (agP R i b t u st m rp) := by
      unfold stP
      simp only
      rw [if_pos c]
    unfold agP at ea
    rw [g1, Int.toNat_natCast] at ea
    have ro := p6 o (by rw [g5]; exact List.mem_cons_self)
    have e67 := hC o (by rw [g5]; exact List.mem_cons_self)
    have o100 : o < 100 := by omega
    rw [g1, ix_n (by omega), e67, show (1 : Int32) = iI 1 from by decide, iI_sub, gI_pI, if_pos ⟨rfl, rfl⟩, show (0 : Int32) = iI 0 from by decide, iI_le ⟨by omega, by omega⟩ ⟨by decide, by decide⟩, show iI 0 = (0 : Int32) from by decide, show iI 1 = (1 : Int32) from by decide]
    have C : Ce pfS h (pI h 67 o (iI (rp o - 1))) := Ce.rf.pI rfl _
    have oth : ∀ x, x ∈ rpV R o → gI (pI h 67 o (iI (rp o - 1))) 67 x = iI (upI rp o (rp o - 1) x) := fun x hx => by
      have := rpV_lt o x hx
      unfold upI
      rw [gI_pI, if_neg (by omega), if_neg (by omega)]
      exact hC x (by rw [g5]; exact List.mem_cons_of_mem _ hx)
    refine ⟨in_n o100 (by omega), in_n o100 (by omega), in_n o100 (by omega), fun w => ?_, fun w => ?_⟩
    · rw [if_neg (by omega)] at ea
      refine k1' _ 0 _ ea C (CPr_67 hP) (fun x hx => ?_) (.inl ⟨rfl, rfl⟩)
      simp only at hx ⊢
      rw [rpV_s, if_neg (by omega), if_pos c, g5] at hx
      exact oth x hx
    · rw [if_pos (by omega)] at ea
      refine k1' _ 1 _ ea C (CPr_67 hP) (fun x hx => ?_) (.inr ⟨rfl, rfl⟩)
      simp only at hx ⊢
      rw [g4, Int.toNat_natCast, rpV_s, if_pos g3] at hx
      rcases List.mem_cons.mp hx with e | hx
      · rw [e, gI_pI, if_pos ⟨rfl, rfl⟩]
        unfold upI
        rw [if_pos rfl]
      · exact oth x hx
  · have c8 : R 0 i = 8 := by omega
    rw [if_neg (by omega), Nat.add_zero] at hP
    have ea : stP W R (i, b, t, u, st, m, rp) = some ((R 3 i).toNat, b, t, u, st, m, rp) := by
      unfold stP
      simp only
      rw [if_neg (by omega), if_pos c8]
    refine k1' h 1 _ ea Ce.rf hP (fun o ho => ?_) (.inr ⟨rfl, rfl⟩)
    simp only at ho ⊢
    obtain ⟨j, a1, a2, a3, a4⟩ := wj i his (by simp) (.inr (.inr c8))
    rw [a1, Int.toNat_natCast, a4] at ho
    exact hC o ho
end PERFC4
