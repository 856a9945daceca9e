section PERFC2
variable {G : GX} {h : mH} {Q : mO → mH → Prop} {W : WL} {st : Nat → Int}
/-- the class's performance stands so -/
def CPr (W : WL) (b t : Nat) (u : Bool) (st : Nat → Int) (m : Nat → Nat) (g : mH) : Prop := WX W st g ∧ gI g 55 3 = iI (b : Nat) ∧ gI g 55 4 = iI (t : Nat) ∧ gI g 55 5 = 0 ∧ gI g 55 6 = bL u ∧ MkC m g
def drS (o k : Nat) : Bool := (o == 55 && decide (2 ≤ k ∧ k ≤ 6)) || (o == 60 || decide (63 ≤ o ∧ o ≤ 66))
theorem FdOk_c {g g' : mH} (hC : ∀ o k, 63 ≤ o → o ≤ 65 → gI g' o k = gI g o k) (hf : FdOk g 56) : FdOk g' 56 := fun p hp => by
  obtain ⟨lo, sz, a, b, c1, c2, c3, c4, d⟩ := hf p hp
  exact ⟨lo, sz, by rw [hC (56 + 9) p (by omega) (by omega)]; exact a, by rw [hC (56 + 8) p (by omega) (by omega)]; exact b, c1, c2, c3, c4, fun i hi => by rw [hC (56 + 7) _ (by omega) (by omega)]; exact d i hi⟩
theorem MkC_c {m : Nat → Nat} {g g' : mH} (h1 : ∀ k, gI g' 66 k = gI g 66 k) (h2 : gI g' 55 2 = gI g 55 2) (hM : MkC m g) : MkC m g' := ⟨fun c hc => by rw [h1]; exact hM.1 c hc, by rw [h2]; exact hM.2⟩
theorem CPr_S {b t : Nat} {u : Bool} {m : Nat → Nat} {g g' : mH} (hS : Sm (cr 56) g g') (hX : WX W st g') (hP : CPr W b t u st m g) : CPr W b t u st m g' := by
  obtain ⟨_, a, b, c, d, e⟩ := hP
  have r : ∀ k, gI g' 55 k = gI g 55 k := fun k => hS.gI (o := 55) rfl k
  exact ⟨hX, by rw [r]; exact a, by rw [r]; exact b, by rw [r]; exact c, by rw [r]; exact d, MkC_c (fun k => hS.gI (o := 66) rfl k) (r 2) e⟩
theorem cr_dr {a b : mH} (hS : Sm (cr 56) a b) : Ce drS a b := Ce.sm hS (fun o k ho => by
  unfold drS at ho
  unfold cr
  simp at ho ⊢
  omega)
theorem mk_dr {a b : mH} (h : Ce mkS a b) : Ce drS a b := h.wk (fun o k ho => by
  unfold drS at ho
  unfold mkS
  simp at ho ⊢
  refine ⟨by omega, fun e => ?_⟩
  have := ho.1 e
  omega)
theorem WX_p {g : mH} {k : Nat} {v : Int32} (hX : WX W st g) (o : Nat) (ho : o = 55 ∨ 66 ≤ o) : WX W st (pI g o k v) :=
  WX_c (fun o' k' h' => by rw [gI_pI, if_neg (by omega)]) (FdOk_c (fun o' k' h1 h2 => by rw [gI_pI, if_neg (by omega)]) hX.2.2.2.2) hX
theorem mX6_draw {b t n : Nat} {u : Bool} {m : Nat → Nat} (hi : Iv h) (hW : WR W) (hs : StR st) (hP : CPr W b t u st m h) (ht : t ≤ 9999) (hn : n ≤ 200) (hm : ∀ c, m c ≤ t)
    (k1 : ∀ g, t + n ≤ 9999 → Ce drS h g → CPr W b (t + n) u st (drM W st u n t m) g → Q (.inl none) g)
    (k0 : ∀ g, 9999 < t + n → Ce drS h g → FdOk g 56 → gI g 55 5 = 1 → Q (.inl none) g) : WM G jX6_draw [.ref 55, .int (iI (n : Nat))] h Q := by
  obtain ⟨x, a, b4, c, d, e⟩ := hP
  refine eX6_draw hi ?_
  rw [b4, ad_n, n_9999, le_n (by omega) (by omega)]
  refine ⟨fun q => ?_, fun q => ?_⟩
  · have loop : ∀ (dd i : Nat) (g : mH) (mm : Nat → Nat), i + dd = n → Ce drS h g → CPr W b (t + i) u st mm g → (∀ c, mm c ≤ t + i) → drM W st u n t m = drM W st u dd (t + i) mm → Vw G jX6_draw 23 [some (.ref 55), some (.int (iI (n : Nat))), some (.int (iI (i : Nat)))] [] g Q := by
      intro dd
      induction dd with
      | zero =>
        intro i g mm hin C P hmm ed
        have : i = n := by omega
        subst this
        refine bX6_draw_23 (C.iv hi) ⟨fun _ => k1 g q C ?_, fun w => absurd (Int32.le_refl _) w⟩
        rw [ed]
        exact P
      | succ dd ih =>
        intro i g mm hin C P hmm ed
        have gi := C.iv hi
        refine bX6_draw_23 gi ⟨fun w => ?_, fun _ => ⟨fun w => absurd P.2.2.2.1 w, fun _ => ?_⟩⟩
        · rw [le_n (by omega) (by omega)] at w
          omega
        · refine mX6_cell gi hW hs P.1 (by omega) P.2.2.1 P.2.2.2.2.1 (fun g1 S1 X1 => ?_)
          have P1 := CPr_S S1 X1 P
          have i1 := S1.iv gi
          have cb := (cW_b hW hs X1 u (t + i)).1
          refine bX6_draw_40 i1 (mX6_mark i1 cb (fun c => by have := hmm c; omega) P1.2.2.2.2.2 (fun g2 C2 M2 => ?_))
          have i2 := C2.iv i1
          have D2 := (C.tr (cr_dr S1)).tr (mk_dr C2)
          have e4 : gI g2 55 4 = iI ((t + i : Nat) : Int) := by rw [C2.2.2 55 4 rfl]; exact P1.2.2.1
          refine bX6_draw_43 i2 ?_
          rw [e4, n_1, ad_n, ad_n]
          refine ih (i + 1) _ (inM mm (cW W st u (t + i))) (by omega) (D2.pI rfl _) ?_ (fun c => ?_) (by rw [ed]; rfl)
          · have X2 : WX W st g2 := WX_c (fun o k ho => C2.2.2 o k (by unfold mkS; simp; omega)) (FdOk_c (fun o k h1 h2 => C2.2.2 o k (by unfold mkS; simp; omega)) X1.2.2.2.2) X1
            refine ⟨WX_p X2 55 (.inl rfl), ?_, ?_, ?_, ?_, MkC_c (fun k => by rw [gI_pI, if_neg (by omega)]) (by rw [gI_pI, if_neg (by omega)]) M2⟩
            · rw [gI_pI, if_neg (by omega), C2.2.2 55 3 rfl]; exact P1.2.1
            · rw [gI_pI, if_pos ⟨rfl, rfl⟩]; rfl
            · rw [gI_pI, if_neg (by omega), C2.2.2 55 5 rfl]; exact P1.2.2.2.1
            · rw [gI_pI, if_neg (by omega), C2.2.2 55 6 rfl]; exact P1.2.2.2.2.1
          · have := hmm c
            unfold inM
            split <;> omega
    have C0 : Ce drS h (pI h 55 5 0) := Ce.rf.pI rfl _
    rw [n_0] at C0
    rw [n_0]
    refine loop n 0 _ m (by omega) C0 ⟨WX_p x 55 (.inl rfl), ?_, ?_, ?_, ?_, MkC_c (fun k => by rw [gI_pI, if_neg (by omega)]) (by rw [gI_pI, if_neg (by omega)]) e⟩ hm rfl
    · rw [gI_pI, if_neg (by omega)]; exact a
    · rw [gI_pI, if_neg (by omega)]; exact b4
    · rw [gI_pI, if_pos ⟨rfl, rfl⟩]; exact n_0.symm
    · rw [gI_pI, if_neg (by omega)]; exact d
  · have hi1 : Iv (pI h 55 5 1) := hi
    have C1 : Ce drS h (pI h 55 5 1) := Ce.rf.pI rfl _
    have g1 : gI (pI h 55 5 1) 55 5 = 1 := by rw [gI_pI, if_pos ⟨rfl, rfl⟩]
    exact bX6_draw_23 hi1 ⟨fun _ => k0 _ (by omega) C1 (WX_p x 55 (.inl rfl)).2.2.2.2 g1, fun _ => ⟨fun _ => k0 _ (by omega) C1 (WX_p x 55 (.inl rfl)).2.2.2.2 g1, fun w => by rw [g1] at w; exact absurd w (by decide)⟩⟩
theorem mX6_lift {b t n : Nat} {u : Bool} {m : Nat → Nat} (hi : Iv h) (hP : CPr W b t u st m h) (ht : t ≤ 9999) (hn : n ≤ 200)
    (k1 : ∀ g, t + n ≤ 9999 → Ce drS h g → CPr W b (t + n) u st m g → Q (.inl none) g)
    (k0 : ∀ g, 9999 < t + n → Ce drS h g → FdOk g 56 → gI g 55 5 = 1 → Q (.inl none) g) : WM G jX6_lift [.ref 55, .int (iI (n : Nat))] h Q := by
  obtain ⟨x, a, b4, c, d, e⟩ := hP
  have g0 : gI (pI h 55 5 0) 55 5 = 0 := by rw [gI_pI, if_pos ⟨rfl, rfl⟩]
  have g1 : gI (pI h 55 5 1) 55 5 = 1 := by rw [gI_pI, if_pos ⟨rfl, rfl⟩]
  have g4 : gI (pI h 55 5 0) 55 4 = iI (t : Nat) := by rw [gI_pI, if_neg (by omega)]; exact b4
  refine eX6_lift hi ?_
  rw [b4, ad_n, g4, ad_n, g0, g1, n_9999, le_n (by omega) (by omega)]
  refine ⟨fun q => ⟨fun w => absurd rfl w, fun _ => ?_⟩, fun q => ⟨fun _ => k0 _ (by omega) (Ce.rf.pI rfl _) (WX_p x 55 (.inl rfl)).2.2.2.2 g1, fun w => absurd w (by decide)⟩⟩
  refine k1 _ q ((Ce.rf.pI rfl _).pI rfl _) ⟨WX_p (WX_p x 55 (.inl rfl)) 55 (.inl rfl), ?_, ?_, ?_, ?_, MkC_c (fun k => by rw [gI_pI, if_neg (by omega), gI_pI, if_neg (by omega)]) (by rw [gI_pI, if_neg (by omega), gI_pI, if_neg (by omega)]) e⟩
  · rw [gI_pI, if_neg (by omega), gI_pI, if_neg (by omega)]; exact a
  · rw [gI_pI, if_pos ⟨rfl, rfl⟩]
  · rw [gI_pI, if_neg (by omega)]; exact g0
  · rw [gI_pI, if_neg (by omega), gI_pI, if_neg (by omega)]; exact d
theorem clI_c {x hi : Int} (h1 : -1000 ≤ x) (h2 : x ≤ 1000) (h3 : 0 ≤ hi) (h4 : hi ≤ 1000) : fJ9_max_7cf53 0 (fJ9_min_7cf53 (iI x) (iI hi)) = iI (clI x hi) := by
  have e : fJ9_min_7cf53 (iI x) (iI hi) = iI (min x hi) := by
    unfold fJ9_min_7cf53
    by_cases c : hi < x
    · rw [if_pos ((iI_lt ⟨by omega, by omega⟩ ⟨by omega, by omega⟩).mpr c)]
      congr 1
      omega
    · rw [if_neg (fun w => c ((iI_lt ⟨by omega, by omega⟩ ⟨by omega, by omega⟩).mp w))]
      congr 1
      omega
  rw [e]
  unfold fJ9_max_7cf53 clI
  rw [show (0 : Int32) = iI 0 from by decide]
  by_cases c : 0 < min x hi
  · rw [if_pos ((iI_lt ⟨by decide, by decide⟩ ⟨by omega, by omega⟩).mpr c)]
    congr 1
    omega
  · rw [if_neg (fun w => c ((iI_lt ⟨by decide, by decide⟩ ⟨by omega, by omega⟩).mp w))]
    congr 1
    omega
theorem mX6_alter {b t q : Nat} {u : Bool} {m : Nat → Nat} {ch hi' : Int} (hi : Iv h) (hs : StR st) (hP : CPr W b t u st m h) (hq : q < 12) (hc : -90 ≤ ch ∧ ch ≤ 90) (hh : 0 ≤ hi' ∧ hi' ≤ 90)
    (k : ∀ g, Ce drS h g → CPr W b t u (upI st q (clI (st q + ch) hi')) m g → Q (.inl none) g) : WM G jX6_alter [.ref 55, .int (iI (q : Nat)), .int (iI ch), .int (iI hi')] h Q := by
  obtain ⟨x, a, b4, c, d, e⟩ := hP
  have sb := st_12 hs hq
  refine eX6_alter hi ⟨fun w => ?_, fun _ => ⟨fun w => ?_, fun _ => ?_⟩⟩
  · rw [n_0, lt_n (by omega) (by omega)] at w
    omega
  · rw [n_12, le_n (by omega) (by omega)] at w
    omega
  · rw [ix_n (by omega), x.2.2.2.1 q hq, iI_add, clI_c (by omega) (by omega) (by omega) (by omega)]
    refine ⟨in_n hq (by omega), in_n hq (by omega), k _ (Ce.rf.pI rfl _) ⟨⟨?_, ?_, ?_, fun i hi => ?_, ?_⟩, ?_, ?_, ?_, ?_, MkC_c (fun k => by rw [gI_pI, if_neg (by omega)]) (by rw [gI_pI, if_neg (by omega)]) e⟩⟩
    · intro p hp
      rw [gI_pI, if_neg (by omega), gI_pI, if_neg (by omega), gI_pI, if_neg (by omega)]
      exact x.1 p hp
    · rw [gI_pI, if_neg (by omega)]; exact x.2.1
    · intro i hi
      refine ⟨by rw [gI_pI, if_neg (by omega)]; exact (x.2.2.1 i hi).1, fun a ha => by rw [gI_pI, if_neg (by omega)]; exact (x.2.2.1 i hi).2 a ha⟩
    · rw [gI_pI]
      unfold upI
      by_cases w : i = q
      · rw [if_pos ⟨rfl, w⟩, if_pos w]
      · rw [if_neg (fun y => w y.2), if_neg w]; exact x.2.2.2.1 i hi
    · exact FdOk_c (fun o k h1 h2 => by rw [gI_pI, if_neg (by omega)]) x.2.2.2.2
    · rw [gI_pI, if_neg (by omega)]; exact a
    · rw [gI_pI, if_neg (by omega)]; exact b4
    · rw [gI_pI, if_neg (by omega)]; exact c
    · rw [gI_pI, if_neg (by omega)]; exact d
end PERFC2
