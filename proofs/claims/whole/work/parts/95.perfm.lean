section PERFM
variable {G : GX} {h : mH} {Q : mO → mH → Prop} {W : WL} {st : Nat → Int}
/-- the model holds the world, and the settings of a performance -/
def WY (W : WL) (st : Nat → Int) (g : mH) : Prop := (∀ p, p < 4 → gI g 84 p = iI (W.1 p) ∧ gI g 85 p = iI (W.2.1 p) ∧ gI g 86 p = iI (W.2.2.1 p)) ∧ gI g 83 2 = iI (W.2.2.2.1 : Nat) ∧ (∀ i, i < W.2.2.2.1 → gI g 88 (3 * i) = iI (W.2.2.2.2.1 i) ∧ ∀ a, a < 2 → gI g 88 (3 * i + 1 + a) = iI (W.2.2.2.2.2 i a)) ∧ ∀ i, i < 12 → gI g 110 i = iI (st i)
theorem WY_MR (hW : WR W) (hs : StR st) {g : mH} (hX : WY W st g) : MR g 110 0 ∧ CM g ∧ (∀ p t, p < 4 → atV g 84 85 86 110 0 p t = aW W st p t) ∧ ∀ ax t, ax < 2 → swM g 110 0 ax t + skM g ax t = pW W st ax t := by
  obtain ⟨x1, x2, x3, x4⟩ := hX
  obtain ⟨w1, w2, w3⟩ := hW
  have tI : ∀ {x : Int}, -1000 ≤ x → x ≤ 1000 → (iI x).toInt = x := fun h1 h2 => iI_toInt ⟨by omega, by omega⟩
  have e5 : (gI g 83 2).toInt.toNat = W.2.2.2.1 := by rw [x2, tI (by omega) (by omega)]; omega
  have at' : ∀ p t, p < 4 → atV g 84 85 86 110 0 p t = aW W st p t := fun p t hp => by
    have a := w1 p hp
    have b := hs p hp
    unfold atV aW
    rw [Nat.zero_add, Nat.zero_add, Nat.zero_add, (x1 p hp).1, (x1 p hp).2.1, (x1 p hp).2.2, x4 p (by omega), x4 (4 + p) (by omega), x4 (8 + p) (by omega)]
    rw [tI (by omega) (by omega), tI (by omega) (by omega), tI (by omega) (by omega), tI (by omega) (by omega), tI (by omega) (by omega), tI (by omega) (by omega)]
  refine ⟨fun p hp => ?_, ⟨?_, fun i hi => ?_⟩, at', fun ax t hax => ?_⟩
  · have a := w1 p hp
    have b := hs p hp
    unfold PnR rg
    rw [Nat.zero_add, Nat.zero_add, Nat.zero_add, (x1 p hp).1, (x1 p hp).2.1, (x1 p hp).2.2, x4 p (by omega), x4 (4 + p) (by omega), x4 (8 + p) (by omega)]
    rw [tI (by omega) (by omega), tI (by omega) (by omega), tI (by omega) (by omega), tI (by omega) (by omega), tI (by omega) (by omega), tI (by omega) (by omega)]
    omega
  · unfold rg
    rw [x2, tI (by omega) (by omega)]
    omega
  · rw [e5] at hi
    have a := w3 i hi
    have b := x3 i hi
    refine ⟨?_, fun ax hax => ?_⟩
    · unfold rg
      rw [b.1, tI (by omega) (by omega)]
      exact a.1
    · have := a.2 ax hax
      unfold rg
      rw [b.2 ax hax, tI (by omega) (by omega)]
      exact this
  · unfold swM skM pW
    rw [at' (2 * ax) t (by omega), at' (2 * ax + 1) t (by omega), e5]
    congr 1
    refine shI_congr _ (fun i hi => ?_)
    have a := w3 i hi
    have b := x3 i hi
    have c := a.2 ax hax
    refine ⟨?_, ?_⟩
    · show (gI g 88 (3 * i)).toInt = _
      rw [b.1, tI (by omega) (by omega)]
    · show (gI g 88 (3 * i + 1 + ax)).toInt = _
      rw [b.2 ax hax, tI (by omega) (by omega)]
theorem WY_c {g g' : mH} (hC : ∀ o k, (o = 83 ∧ k = 2) ∨ (84 ≤ o ∧ o ≤ 88) ∨ o = 110 → gI g' o k = gI g o k) (hX : WY W st g) : WY W st g' := by
  obtain ⟨x1, x2, x3, x4⟩ := hX
  exact ⟨fun p hp => ⟨by rw [hC 84 p (by omega)]; exact (x1 p hp).1, by rw [hC 85 p (by omega)]; exact (x1 p hp).2.1, by rw [hC 86 p (by omega)]; exact (x1 p hp).2.2⟩, by rw [hC 83 2 (by omega)]; exact x2, fun i hi => ⟨by rw [hC 88 _ (by omega)]; exact (x3 i hi).1, fun a ha => by rw [hC 88 _ (by omega)]; exact (x3 i hi).2 a ha⟩, fun i hi => by rw [hC 110 i (by omega)]; exact x4 i hi⟩
theorem WY_p {g : mH} {o k : Nat} {v : Int32} (ho : (o = 83 ∧ k ≠ 2) ∨ o = 108 ∨ o = 109) (hX : WY W st g) : WY W st (pI g o k v) :=
  WY_c (fun o' k' h' => by rw [gI_pI, if_neg (by omega)]) hX
theorem pW_b (hW : WR W) (hs : StR st) {g : mH} (hX : WY W st g) {ax : Nat} (hax : ax < 2) (t : Nat) : -260 ≤ pW W st ax t ∧ pW W st ax t ≤ 260 := by
  obtain ⟨a, b, _, d⟩ := WY_MR hW hs hX
  have h1 := swM_b (t := t) a hax
  have h2 := skM_b (t := t) b hax
  rw [← d ax t hax]
  omega
theorem cW_bm (hW : WR W) (hs : StR st) {g : mH} (hX : WY W st g) (u : Bool) (t : Nat) : cW W st u t ≤ 728 ∧ fX11_cellOf (iI (pW W st (bx u) t)) (iI (pW W st (bx (!u)) t)) = iI (cW W st u t : Nat) := by
  have b0 := pW_b hW hs hX (bx_lt u) t
  have b1 := pW_b hW hs hX (bx_lt (!u)) t
  have ce := ceI_b b0.1 b0.2 b1.1 b1.2
  unfold cW
  refine ⟨by omega, ?_⟩
  rw [cellOfM_iI b0.1 b0.2 b1.1 b1.2]
  congr 1
  omega
theorem mX11_penLoop {t ax : Nat} (hi : Iv h) (hax : ax < 2) (ht : t ≤ 10000000) (h52 : gI h 83 52 = iI (t : Nat)) (hc : CM h) (k : Q (.inl (some (.int (iI (swM h 110 0 ax t + skM h ax t))))) h) : Vw G jX11_penGoing 29 [some (.ref 83), none, some (.int (iI ax)), none, none] [.int (iI (swM h 110 0 ax t))] h Q := by
  obtain ⟨⟨c1, c2⟩, hw⟩ := hc
  obtain ⟨n, hn⟩ : ∃ n : Nat, (gI h 83 2).toInt = n := ⟨(gI h 83 2).toInt.toNat, by omega⟩
  have hcn : gI h 83 2 = iI n := by rw [← hn, iI_self]
  have hnn : (gI h 83 2).toInt.toNat = n := by omega
  rw [hnn] at hw
  unfold skM at k
  rw [hnn] at k
  refine bX11_penGoing_29 hi ?_
  have loop : ∀ m i : Nat, i + m = n → Vw G jX11_penGoing 33 [some (.ref 83), none, some (.int (iI ax)), some (.int (iI (swM h 110 0 ax t + shI (fun i => (gI h 88 (3 * i)).toInt) (fun i => (gI h 88 (3 * i + 1 + ax)).toInt) t i))), some (.int (iI i))] [] h Q := by
    intro m
    induction m with
    | zero =>
      intro i him
      have : i = n := by omega
      subst this
      refine bX11_penGoing_33 hi ⟨fun _ => k, fun c => absurd ?_ c⟩
      rw [hcn]
      exact Int32.le_refl _
    | succ m ih =>
      intro i him
      have hil : i < n := by omega
      have h3 : (3 : Int32) * iI (i : Int) = iI ((3 * i : Nat) : Int) := by rw [iI_lit 3, iI_mul]; congr 1
      have h3x : (iI ((3 * i : Nat) : Int)).toNatClampNeg = 3 * i := by rw [iI_ix ⟨by omega, by omega⟩]; rfl
      have h4 : iI ((3 * i : Nat) : Int) + 1 + iI (ax : Int) = iI ((3 * i + 1 + ax : Nat) : Int) := by rw [iI_lit 1, iI_add, iI_add]; congr 1
      have h4x : (iI ((3 * i + 1 + ax : Nat) : Int)).toNatClampNeg = 3 * i + 1 + ax := by rw [iI_ix ⟨by omega, by omega⟩]; rfl
      have e1 : iI (i : Int) + 1 = iI ((i + 1 : Nat) : Int) := by rw [iI_lit 1, iI_add]; congr 1
      have nxt : ∀ v : Int, v = swM h 110 0 ax t + shI (fun i => (gI h 88 (3 * i)).toInt) (fun i => (gI h 88 (3 * i + 1 + ax)).toInt) t (i + 1) → Vw G jX11_penGoing 33 [some (.ref 83), none, some (.int (iI ax)), some (.int (iI v)), some (.int (iI (i : Int) + 1))] [] h Q := by
        intro v hv
        subst hv
        rw [e1]
        exact ih (i + 1) (by omega)
      refine bX11_penGoing_33 hi ⟨fun c => ?_, fun _ => ⟨by rw [h3]; exact iI_in (by omega) (by omega) (by omega), fun c => ?_, fun c => ⟨by rw [h3, h4]; exact iI_in (by omega) (by omega) (by omega), ?_⟩⟩⟩
      · rw [hcn, iI_le ⟨by omega, by omega⟩ ⟨by omega, by omega⟩] at c
        omega
      · rw [i32_0, iI_add]
        refine nxt _ ?_
        rw [h52, h3, h3x, ← iI_self (gI h 88 (3 * i)), iI_lt ⟨by omega, by omega⟩ (r31_self _)] at c
        show _ = _ + (shI _ _ _ i + _)
        rw [if_neg (by show ¬ (gI h 88 (3 * i)).toInt ≤ t; omega)]
        omega
      · rw [h3, h4, h4x, ← iI_self (gI h 88 (3 * i + 1 + ax)), iI_add]
        refine nxt _ ?_
        rw [h52, h3, h3x, ← iI_self (gI h 88 (3 * i)), iI_lt ⟨by omega, by omega⟩ (r31_self _)] at c
        show _ = _ + (shI _ _ _ i + _)
        rw [if_pos (by show (gI h 88 (3 * i)).toInt ≤ t; omega)]
        exact Int.add_assoc _ _ _
  have := loop n 0 (by omega)
  rw [show swM h 110 0 ax t + shI (fun i => (gI h 88 (3 * i)).toInt) (fun i => (gI h 88 (3 * i + 1 + ax)).toInt) t 0 = swM h 110 0 ax t from by show _ + (0 : Int) = _; omega] at this
  exact this
theorem mX11_penGoing {t : Nat} {u w : Bool} (hi : Iv h) (hW : WR W) (hs : StR st) (hX : WY W st h) (ht : t ≤ 10000) (h52 : gI h 83 52 = iI (t : Nat)) (h53 : gI h 83 53 = bL u) (k : Q (.inl (some (.int (iI (pW W st (bx (xor w u)) t))))) h) : WM G jX11_penGoing [.ref 83, .int (iI (bx w : Nat))] h Q := by
  obtain ⟨a, b, _, d⟩ := WY_MR hW hs hX
  have go : ∀ ax : Nat, ax = bx (xor w u) → WM G jX11_penOf [.ref 83, .ref 110, .int (iI ((0 : Nat) : Int)), .int (iI (t : Nat)), .int (iI (ax : Nat))] h (Aft G jX11_penGoing 26 [some (.ref 83), none, some (.int (iI (ax : Nat))), none, none] [] Q) := fun ax e => by
    have hax : ax < 2 := by rw [e]; exact bx_lt _
    refine mX11_penOf (f := 0) (n := 12) hi rfl (by omega) (by omega) hax (by omega) a ?_
    refine mX11_penLoop hi hax (by omega) h52 b ?_
    rw [d ax t hax, e]
    exact k
  refine eX11_penGoing hi ?_
  rw [h52, h53, n_0]
  refine ⟨fun c => ?_, fun c => ?_⟩
  · rw [← n_0, bL_0] at c
    subst c
    exact go _ (by cases w <;> rfl)
  · rw [← n_0, bL_1] at c
    subst c
    rw [n_1, su_n (by cases w <;> decide)]
    exact go _ (by cases w <;> rfl)
theorem mX11_cellGoing {t : Nat} {u : Bool} (hi : Iv h) (hW : WR W) (hs : StR st) (hX : WY W st h) (ht : t ≤ 10000) (h52 : gI h 83 52 = iI (t : Nat)) (h53 : gI h 83 53 = bL u) (k : Q (.inl (some (.int (iI (cW W st u t : Nat))))) h) : WM G jX11_cellGoing [.ref 83] h Q := by
  refine eX11_cellGoing hi ?_
  rw [show (0 : Int32) = iI (bx false : Nat) from by decide]
  refine mX11_penGoing hi hW hs hX ht h52 h53 (bX11_cellGoing_5 hi ?_)
  rw [show (1 : Int32) = iI (bx true : Nat) from by decide]
  refine mX11_penGoing hi hW hs hX ht h52 h53 (bX11_cellGoing_10 hi ?_)
  have := (cW_bm hW hs hX u t).2
  rw [show (xor false u) = u from by cases u <;> rfl, show (xor true u) = !u from by cases u <;> rfl, this]
  exact k
/-- the model's performance stands so -/
def MPr (W : WL) (b t : Nat) (u : Bool) (st : Nat → Int) (m : Nat → Nat) (g : mH) : Prop := WY W st g ∧ gI g 83 51 = iI (b : Nat) ∧ gI g 83 52 = iI (t : Nat) ∧ gI g 83 53 = bL u ∧ gI g 83 54 = 0 ∧ ∀ c, c < 729 → gI g 109 c = iI (m c : Nat)
def pmS (o k : Nat) : Bool := (o == 83 && decide (51 ≤ k ∧ k ≤ 54)) || decide (108 ≤ o ∧ o ≤ 110)
theorem mX11_draws {b t n : Nat} {u : Bool} {m : Nat → Nat} (hi : Iv h) (hW : WR W) (hs : StR st) (hP : MPr W b t u st m h) (ht : t ≤ 9999) (hn : n ≤ 200) (hm : ∀ c, m c ≤ t)
    (k1 : ∀ g, t + n ≤ 9999 → Ce pmS h g → (∀ k, gI g 108 k = gI h 108 k) → MPr W b (t + n) u st (drM W st u n t m) g → Q (.inl none) g)
    (k0 : ∀ g, 9999 < t + n → Ce pmS h g → gI g 83 54 = 1 → Q (.inl none) g) : WM G jX11_draws [.ref 83, .int (iI (n : Nat))] h Q := by
  have loop : ∀ (dd i : Nat) (g : mH) (mm : Nat → Nat), i + dd = n → t + i ≤ 9999 → Ce pmS h g → (∀ k, gI g 108 k = gI h 108 k) → MPr W b (t + i) u st mm g → (∀ c, mm c ≤ t + i) → drM W st u n t m = drM W st u dd (t + i) mm → Vw G jX11_draws 2 [some (.ref 83), some (.int (iI (n : Nat))), some (.int (iI (i : Nat)))] [] g Q := by
    intro dd
    induction dd with
    | zero =>
      intro i g mm hin hti C C8 P hmm ed
      have : i = n := by omega
      subst this
      refine bX11_draws_2 (C.iv hi) ⟨fun _ => k1 g hti C C8 ?_, fun w => absurd (Int32.le_refl _) w⟩
      rw [ed]
      exact P
    | succ dd ih =>
      intro i g mm hin hti C C8 P hmm ed
      have gi := C.iv hi
      obtain ⟨x, p51, p52, p53, p54, p109⟩ := id P
      refine bX11_draws_2 gi ⟨fun w => ?_, fun _ => ⟨fun w => absurd p54 w, fun _ => ?_⟩⟩
      · rw [le_n (by omega) (by omega)] at w
        omega
      · have cb := (cW_bm hW hs x u (t + i)).1
        refine mX11_cellGoing gi hW hs x (by omega) p52 p53 (bX11_draws_22 gi ?_)
        have mc := hmm (cW W st u (t + i))
        rw [ix_n (by omega), p109 _ (by omega), n_1, ad_n]
        generalize hg1 : pI g 109 (cW W st u (t + i)) (iI ((mm (cW W st u (t + i)) + 1 : Nat) : Int)) = g1
        have e52 : gI g1 83 52 = iI ((t + i : Nat) : Int) := by rw [← hg1, gI_pI, if_neg (by omega)]; exact p52
        rw [e52, ad_n, ad_n]
        generalize hg2 : pI g1 83 52 (iI ((t + i + 1 : Nat) : Int)) = g2
        have f52 : gI g2 83 52 = iI ((t + i + 1 : Nat) : Int) := by rw [← hg2, gI_pI, if_pos ⟨rfl, rfl⟩]
        rw [f52, n_10000, lt_n (by omega) (by omega)]
        have C2 : Ce pmS h g2 := by rw [← hg2, ← hg1]; exact (C.pI rfl _).pI rfl _
        have r2 : ∀ o k, o ≠ 109 → (o = 83 → k ≠ 52) → gI g2 o k = gI g o k := fun o k h1 h2 => by rw [← hg2, gI_pI, if_neg (fun e => h2 e.1 e.2), ← hg1, gI_pI, if_neg (fun e => h1 e.1)]
        have r109 : ∀ c, c < 729 → gI g2 109 c = iI (inM mm (cW W st u (t + i)) c : Nat) := fun c hc => by
          rw [← hg2, gI_pI, if_neg (by omega), ← hg1, gI_pI]
          unfold inM
          by_cases e : c = cW W st u (t + i)
          · rw [if_pos ⟨rfl, e⟩, if_pos e, e]
          · rw [if_neg (fun w => e w.2), if_neg e]; exact p109 c hc
        clear hg1 hg2
        refine ⟨in_n (by omega) (by omega), in_n (by omega) (by omega), fun w => ?_, fun w => ?_⟩
        · refine ih (i + 1) _ (inM mm (cW W st u (t + i))) (by omega) (by omega) (C2.pI rfl _) (fun k => by rw [gI_pI, if_neg (by omega), r2 108 k (by omega) (by omega)]; exact C8 k) ⟨WY_p (.inl ⟨rfl, by omega⟩) (WY_c (fun o k ho => r2 o k (by omega) (by omega)) x), ?_, ?_, ?_, ?_, ?_⟩ (fun c => ?_) (by rw [ed]; rfl)
          · rw [gI_pI, if_neg (by omega), r2 83 51 (by omega) (by omega)]; exact p51
          · rw [gI_pI, if_neg (by omega)]; exact f52
          · rw [gI_pI, if_neg (by omega), r2 83 53 (by omega) (by omega)]; exact p53
          · rw [gI_pI, if_pos ⟨rfl, rfl⟩]
          · intro c hc
            rw [gI_pI, if_neg (by omega)]
            exact r109 c hc
          · have := hmm c
            unfold inM
            split <;> omega
        · have C3 : Ce pmS h (pI g2 83 54 (iI ((1 : Nat) : Int))) := C2.pI rfl _
          have s1 : gI (pI g2 83 54 (iI ((1 : Nat) : Int))) 83 54 = 1 := by rw [gI_pI, if_pos ⟨rfl, rfl⟩]; exact n_1.symm
          have q := k0 _ (by omega) C3 s1
          exact bX11_draws_2 (C3.iv hi) ⟨fun _ => q, fun _ => ⟨fun _ => q, fun w => by rw [s1] at w; exact absurd w (by decide)⟩⟩
  refine eX11_draws hi ?_
  rw [n_0]
  exact loop n 0 h m (by omega) ht Ce.rf (fun _ => rfl) hP hm rfl
theorem mX11_holds {b t : Nat} {u : Bool} {m : Nat → Nat} {te : Int} (hi : Iv h) (hW : WR W) (hs : StR st) (hP : MPr W b t u st m h) (ht : t ≤ 9999) (hm : ∀ c, m c ≤ t) (h0 : 0 ≤ te) (h6 : te ≤ 6) (k : Q (.inl (some (.int (bL (hoW W st u t m te))))) h) : WM G jX11_holds [.ref 83, .int (iI (if te ≤ 2 then 15 + te else 18)), .int (iI (if te ≤ 2 then 0 else te - 3))] h Q := by
  obtain ⟨x, _, b4, d, _, e⟩ := id hP
  unfold hoW at k
  have posq : ∀ ax, ax < 2 → (iI (pW W st ax t) ≤ 0 ↔ ¬ 0 < pW W st ax t) := fun ax hax => by
    have pb := pW_b hW hs x hax t
    rw [show (0 : Int32) = iI 0 from by decide, iI_le ⟨by omega, by omega⟩ ⟨by decide, by decide⟩]
    omega
  have vq : ∀ c : Int, 15 ≤ c → c ≤ 17 → (iI (if te ≤ 2 then 15 + te else 18) = iI c ↔ te = c - 15) := fun c h1 h2 => by
    rw [iI_eq ⟨by split <;> omega, by split <;> omega⟩ ⟨by omega, by omega⟩]
    split <;> omega
  refine eX11_holds hi ?_
  rw [show (15 : Int32) = iI 15 from by decide, show (16 : Int32) = iI 16 from by decide, show (17 : Int32) = iI 17 from by decide, vq 15 (by omega) (by omega), vq 16 (by omega) (by omega), vq 17 (by omega) (by omega), b4]
  refine ⟨fun c => ?_, fun c => ?_, fun c => ?_, fun c0 c1 c2 => ?_⟩
  · rw [if_pos (by omega)] at k
    have cb := (cW_bm hW hs x u t).1
    have mc := hm (cW W st u t)
    refine mX11_cellGoing hi hW hs x (by omega) b4 d (bX11_holds_36 hi ?_)
    rw [ix_n (by omega), e _ (by omega), n_0, le_n (by omega) (by omega), ← n_0]
    refine ⟨in_n (by omega) (by omega), fun w => ?_, fun w => ?_⟩
    · rw [decide_eq_false (by omega)] at k
      exact k
    · rw [decide_eq_true (by omega)] at k
      exact k
  · rw [if_neg (by omega), if_pos (by omega)] at k
    rw [show (0 : Int32) = iI (bx false : Nat) from by decide]
    refine mX11_penGoing hi hW hs x (by omega) b4 d ?_
    rw [show (xor false u) = u from by cases u <;> rfl]
    refine bX11_holds_51 hi ?_
    rw [posq _ (bx_lt u)]
    refine ⟨fun w => ?_, fun w => ?_⟩
    · rw [decide_eq_false w] at k
      exact k
    · rw [decide_eq_true (Classical.not_not.mp w)] at k
      exact k
  · rw [if_neg (by omega), if_neg (by omega), if_pos (by omega)] at k
    rw [show (1 : Int32) = iI (bx true : Nat) from by decide]
    refine mX11_penGoing hi hW hs x (by omega) b4 d ?_
    rw [show (xor true u) = !u from by cases u <;> rfl]
    refine bX11_holds_65 hi ?_
    rw [posq _ (bx_lt (!u))]
    refine ⟨fun w => ?_, fun w => ?_⟩
    · rw [decide_eq_false w] at k
      exact k
    · rw [decide_eq_true (Classical.not_not.mp w)] at k
      exact k
  · rw [if_neg (by omega), if_neg (by omega), if_neg (by omega)] at k
    obtain ⟨p, hp⟩ : ∃ p : Nat, te - 3 = p := ⟨(te - 3).toNat, by omega⟩
    rw [hp, Int.toNat_natCast] at k
    rw [if_neg (show ¬ te ≤ 2 by omega), hp, n_0]
    obtain ⟨a1, a2, a3, a4⟩ := WY_MR hW hs x
    have p4 : p < 4 := by omega
    have ab := atV_b (a1 p p4) t
    have ea : atV h 84 85 86 110 0 p t = aW W st p t := a3 p t p4
    refine mX11_at (n := 12) hi rfl (by omega) (by omega) p4 (by omega) (a1 p p4).ok ?_
    have ab' : -90 ≤ aW W st p t ∧ aW W st p t ≤ 90 := by rw [← ea]; exact ab
    have eb : atI (gI h 84 p).toInt (gI h 85 p).toInt (gI h 86 p).toInt (gI h 110 (0 + p)).toInt (gI h 110 (0 + (4 + p))).toInt (gI h 110 (0 + (8 + p))).toInt t = aW W st p t := ea
    refine bX11_holds_88 hi ?_
    rw [eb, show (0 : Int32) = iI 0 from by decide, iI_eq ⟨by omega, by omega⟩ ⟨by decide, by decide⟩, show iI 0 = (0 : Int32) from by decide]
    refine ⟨fun w => ?_, fun w => ?_⟩
    · rw [decide_eq_false (fun y => y w)] at k
      exact k
    · rw [decide_eq_true w] at k
      exact k
end PERFM
