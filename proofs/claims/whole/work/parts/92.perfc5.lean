section PERFC5
variable {G : GX} {h : mH} {Q : mO → mH → Prop} {W : WL}
def CPs (W : WL) (s : PS) (g : mH) : Prop := CPr W s.2.1 s.2.2.1 s.2.2.2.1 s.2.2.2.2.1 s.2.2.2.2.2.1 g
/-- what a performance came to, in the class -/
def OuC (R : Nat → Nat → Int) (sz : Nat) (W : WL) (x : Option PS) (g : mH) : Prop := match x with
  | none => FdOk g 56 ∧ gI g 55 5 = 1
  | some s => PI R sz s ∧ CPs W s g
def plL (W : WL) (r : Nat) (sc : PF) (st0 : Nat → Int) : Option PS := ruP W sc.2.1 sc.1 1000000 (0, 0, 0, false, st0, fun _ => 0, fun _ => 0)
theorem mX6_loop {r : Nat} {sc : PF} {x : Option PS} (h0 : mH) (hi0 : Iv h0) (hr : r = 43 ∨ r = 49) (kr : kd r = (7, 7)) (hW : WR W) (hF : WF sc) (hR0 : SRw r sc h0)
    (k : ∀ g, Ce pfS h0 g → OuC sc.2.1 sc.1 W x g → Q (.inl none) g) : ∀ (d j : Nat) (s : PS) (g : mH), j + d = 1000000 → Ce pfS h0 g → PI sc.2.1 sc.1 s → CPs W s g → RpC sc.2.1 s.1 s.2.2.2.2.2.2 g → x = ruP W sc.2.1 sc.1 d s → Vw G jX6_play 61 [some (.ref 55), some (.ref r), none, none, some (.int (iI (s.1 : Nat))), some (.int (iI (j : Nat))), none] [] g Q := by
  have end1 : ∀ (g : mH) (v4 v5 : Int32), x = none → Ce pfS h0 g → FdOk g 56 → gI g 55 5 = 1 → Vw G jX6_play 176 [some (.ref 55), some (.ref r), none, none, some (.int v4), some (.int v5), none] [] g Q := fun g v4 v5 hx C fd g5 => by
    have gi := C.iv hi0
    have q := k g C (by rw [hx]; exact ⟨fd, g5⟩)
    exact bX6_play_176 gi kr (bX6_play_61 gi kr ⟨fun _ => q, fun _ => ⟨fun _ => q, fun w => by rw [g5] at w; exact absurd w (by decide)⟩⟩)
  have w100 := hF.1
  intro d
  induction d with
  | zero =>
    intro j s g hj C hI hP hC hx
    have : j = 1000000 := by omega
    subst this
    refine bX6_play_61 (C.iv hi0) kr ⟨fun _ => k g C (by rw [hx]; exact ⟨hI, hP⟩), fun w => absurd (by rw [n_1000000]; exact Int32.le_refl _) w⟩
  | succ d ih =>
    intro j s g hj C hI hP hC hx
    have gi := C.iv hi0
    have SR := SRw_c hr C hR0
    obtain ⟨i, b, t, u, st, m, rp⟩ := s
    have hP' : CPr W b t u st m g := hP
    obtain ⟨p1, p2, p3, p4, p5, p6⟩ := id hI
    simp only at p1 p2 p3 p4 p5 p6 hC
    refine bX6_play_61 gi kr ⟨fun w => ?_, fun _ => ⟨fun w => absurd hP'.2.2.2.1 w, fun _ => ⟨fun w => ?_, fun _ => ?_⟩⟩⟩
    · rw [n_1000000, le_n (by omega) (by omega)] at w
      omega
    · rw [n_0, lt_n (by omega) (by omega)] at w
      omega
    simp only
    rw [SR.1, le_n (by omega) (by omega), ix_n (by omega)]
    refine ⟨fun w => ?_, fun w => ?_⟩
    · refine k g C ?_
      rw [hx]
      unfold ruP
      rw [if_pos w]
      exact ⟨hI, hP⟩
    · have his : i < sc.1 := by omega
      obtain ⟨n0, n8⟩ := (hF.2.2.1.1 i his).1
      have e0 : gI g (r + 1) i = iI (sc.2.1 0 i) := SR.2 0 i (by omega) his
      have e3 : ∀ g', Ce pfS h0 g' → gI g' (r + 4) i = iI (sc.2.1 3 i) := fun g' C' => (SRw_c hr C' hR0).2 3 i (by omega) his
      rw [e0, hP'.2.1, show (7 : Int32) = iI 7 from by decide, iI_le ⟨by decide, by decide⟩ ⟨by omega, by omega⟩, n_1000, lt_n (by omega) (by omega)]
      have x1 : x = match stP W sc.2.1 (i, b, t, u, st, m, rp) with
          | none => none
          | some s' => ruP W sc.2.1 sc.1 d s' := by
        rw [hx]
        conv => lhs; unfold ruP
        rw [if_neg w]
        all_goals rfl
      -- one step
      have step : ∀ (g1 : mH), (sc.2.1 0 i ≤ 6 → b < 1000) → Ce pfS h0 g1 → CPr W (b + (if sc.2.1 0 i ≤ 6 then 1 else 0)) t u st m g1 → RpC sc.2.1 i rp g1 → WM G jX6_goesAside [.ref 55, .ref r, .int (iI (i : Nat))] g1 (Aft G jX6_play 154 [some (.ref 55), some (.ref r), none, none, some (.int (iI (i : Nat))), some (.int (iI (j : Nat))), none] [] Q) := fun g1 hb C1 P1 R1 => by
        refine mX6_goesAside (C1.iv hi0) hr kr hW hF hI his (SRw_c hr C1 hR0) hb P1 R1 (fun g2 v s' es C2 P2 R2 hv => ?_) (fun g2 v es C2 fd g5 => ?_)
        · have D2 := C1.tr C2
          have i2 := D2.iv hi0
          have I2 := (stP_i hF hI his es).1
          rw [es] at x1
          have nxt := ih (j + 1) s' g2 (by omega) D2 I2 P2 R2 x1
          have s100 : s'.1 ≤ sc.1 := I2.1
          refine bX6_play_157 i2 kr ⟨fun w => ?_, fun w => ⟨in_n (by omega) (by omega), ?_⟩⟩
          · rcases hv with ⟨_, e⟩ | ⟨e, _⟩
            · rw [n_1, ad_n, ← e]
              refine bX6_play_176 i2 kr ?_
              rw [n_1, ad_n]
              exact nxt
            · rw [e] at w
              exact absurd w (by decide)
          · rcases hv with ⟨e, _⟩ | ⟨_, e⟩
            · exact absurd e w
            · have j0 := hF.2.2.2.1.1 i his
              rw [ix_n (by omega), e3 g2 D2, show iI (sc.2.1 3 i) = iI ((s'.1 : Nat) : Int) from by congr 1; omega]
              refine bX6_play_176 i2 kr ?_
              rw [n_1, ad_n]
              exact nxt
        · have D2 := C1.tr C2
          have i2 := D2.iv hi0
          rw [es] at x1
          exact bX6_play_157 i2 kr ⟨fun _ => end1 g2 _ _ x1 D2 fd g5, fun _ => ⟨in_n (by omega) (by omega), end1 g2 _ _ x1 D2 fd g5⟩⟩
      have up : ∀ (c : Nat), CPr W (b + c) t u st m (pI g 55 3 (iI ((b + c : Nat) : Int))) := fun c => by
        obtain ⟨y1, y2, y3, y4, y5, y6⟩ := hP'
        refine ⟨WX_p y1 55 (.inl rfl), ?_, ?_, ?_, ?_, MkC_c (fun k => by rw [gI_pI, if_neg (by omega)]) (by rw [gI_pI, if_neg (by omega)]) y6⟩
        · rw [gI_pI, if_pos ⟨rfl, rfl⟩]
        · rw [gI_pI, if_neg (by omega)]; exact y3
        · rw [gI_pI, if_neg (by omega)]; exact y4
        · rw [gI_pI, if_neg (by omega)]; exact y5
      have uc : ∀ v, Ce pfS h0 (pI g 55 3 v) := fun v => C.pI rfl _
      have ur : ∀ v, RpC sc.2.1 i rp (pI g 55 3 v) := fun v o ho => by rw [gI_pI, if_neg (by omega)]; exact hC o ho
      refine ⟨in_n (by omega) (by omega), fun q => ?_, fun q => ⟨fun q2 => ?_, fun q2 => ?_⟩⟩
      · refine bX6_play_131 gi kr ⟨fun _ => ?_, fun z => absurd rfl z⟩
        rw [hP'.2.1, n_0, ad_n]
        refine step _ (fun z => by omega) (uc _) ?_ (ur _)
        rw [if_neg (by omega)]
        exact up 0
      · refine bX6_play_131 gi kr ⟨fun z => absurd z (by decide), fun _ => ?_⟩
        rw [hP'.2.1, n_1, ad_n]
        refine step _ (fun _ => q2) (uc _) ?_ (ur _)
        rw [if_pos (by omega)]
        exact up 1
      · refine end1 _ _ _ ?_ (C.pI rfl _) (WX_p hP'.1 55 (.inl rfl)).2.2.2.2 (by rw [gI_pI, if_pos ⟨rfl, rfl⟩])
        rw [x1]
        unfold stP
        simp only
        rw [if_neg (by omega), if_neg (by omega), if_pos (by omega)]
end PERFC5
