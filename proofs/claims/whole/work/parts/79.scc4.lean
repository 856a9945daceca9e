section SCC4
variable {G : GX} {h : mH} {Q : mO → mH → Prop} {z : Nat → Int} {n : Nat}
theorem FS_j {r j : Nat} {s : PF} {a i : Nat} {v : Int} {g : mH} (hj : j = 1 + a) (ha : a < 4) (hF : FS r s g) : FS r (s.1, upR s.2.1 a i v, s.2.2) (pI g (r + j) i (iI v)) := by
  obtain ⟨f1, f2, f3, f4⟩ := hF
  subst hj
  refine ⟨?_, ?_, fun x i' hx hi' => ?_, ?_⟩
  · rw [gI_pI, if_neg (by omega)]; exact f1
  · rw [gI_pI, if_neg (by omega)]; exact f2
  · exact rowU (r := r) (a0 := a) (i0 := i) (v := v) (o' := r + (1 + a)) (by omega) (P := fun x i => x < 4 ∧ i < s.1) (fun x i hP => f3 x i hP.1 hP.2) x i' (.inl ⟨hx, hi'⟩)
  · refine opn_cg _ (fun k hk => ?_) f4
    rw [gI_pI, if_neg (by omega)]
theorem mX7_closeBlock {r f o : Nat} {O : List Nat} {s : PF} (hi : Iv h) (hr : 2 < r) (kr : kd r = (7, 7)) (hz : ZC z h) (hn4 : n ≤ 400) (hf : f < n) (ht : TC z n f h) (hF : FS r s h) (hO : s.2.2 = o :: O) (hI : SI s f) (hV : SV s) (k : rdS r h Q (rClo z n s o O f) (fun a g => TC z n a.2 g ∧ FS r a.1 g)) : WM G jX7_closeBlock [.ref r, .ref 1] h Q := by
  obtain ⟨j1, j2, j3⟩ := hI
  rw [hO] at j1 j2 j3
  have os : o < s.1 := j3 o List.mem_cons_self
  have j2' : O.length + 1 ≤ 5 := j2
  unfold rpO at j1
  have al := adT_lt (z := z) hf
  refine eX7_closeBlock hi kr (mX9_adv hi hz hn4 (by omega) ht (fun g1 C1 t1 => ?_))
  have C1' := ta_ts C1
  have i1 := C1'.iv hi
  obtain ⟨f1, f2, f3, f4⟩ := FS_c C1' (ts_r hr) hF
  rw [hO] at f2 f4
  refine bX7_closeBlock_4 i1 kr ?_
  rw [f2, show iI (((o :: O).length : Nat) : Int) - 1 = iI ((O.length : Nat) : Int) from by rw [n_1, su_n (by show 1 ≤ O.length + 1; omega)]; rfl]
  generalize hg2 : pI g1 r 6 (iI ((O.length : Nat) : Int)) = g2
  have C2 : Ce (scS r) h g2 := by rw [← hg2]; exact sc_pI (j := 0) (ts_sc C1') (by omega)
  have i2 := C2.iv hi
  have z2 := ZC_c C2 (sc_2 hr) hz
  have t2 : TC z n (adT z n f) g2 := by rw [← hg2]; exact TC_p (by omega) t1
  have F2 : FS r (s.1, s.2.1, O) g2 := by
    rw [← hg2]
    refine ⟨?_, ?_, fun x i hx hi' => ?_, ?_⟩
    · rw [gI_pI, if_neg (by omega)]; exact f1
    · rw [gI_pI, if_pos ⟨rfl, rfl⟩]
    · rw [gI_pI, if_neg (by omega)]; exact f3 x i hx hi'
    · refine opn_cg _ (fun k hk => ?_) f4.2
      rw [gI_pI, if_neg (by omega)]
  have q6 : gI g2 r 6 = iI ((O.length : Nat) : Int) := by rw [← hg2, gI_pI, if_pos ⟨rfl, rfl⟩]
  have q5 : gI g2 (r + 5) O.length = iI ((o : Nat) : Int) := by rw [← hg2, gI_pI, if_neg (by omega)]; exact f4.1
  have q1 : gI g2 (r + 1) o = iI (s.2.1 0 o) := F2.2.2.1 0 o (by omega) os
  clear hg2
  rw [q6, ix_n (by omega), q5, ix_n (by omega), q1]
  obtain ⟨vb0, vb8⟩ := hV o os
  rw [show (5 : Int32) = iI 5 from by decide, show (6 : Int32) = iI 6 from by decide, iI_eq ⟨by omega, by omega⟩ ⟨by decide, by decide⟩, iI_eq ⟨by omega, by omega⟩ ⟨by decide, by decide⟩]
  unfold rClo at k
  have o100 : o < 100 := by omega
  refine ⟨in_n (by omega) (by omega), in_n o100 (by omega), fun c5 => ⟨in_n o100 (by omega), ?_⟩, fun c5 => ⟨in_n o100 (by omega), fun c6 => ?_, fun c6 => absurd c6 (by omega)⟩⟩
  · rw [if_neg c5] at k
    have plain : ¬ (s.2.1 0 o = 6 ∧ wdS z n (adT z n f) "else" = true) → Vw G jX7_closeBlock 64 [some (.ref r), some (.ref 1), some (.int (iI (o : Int))), some (.int 0), none] [] g2 Q := fun c => by
      rw [if_neg c] at k
      refine bX7_closeBlock_64 i2 kr ⟨fun _ => ?_, fun x => absurd rfl x⟩
      refine bX7_closeBlock_80 i2 kr ⟨fun _ => ?_, fun x => absurd rfl x⟩
      refine bX7_closeBlock_100 i2 kr ⟨fun _ => ?_, fun x => absurd rfl x⟩
      refine bX7_closeBlock_130 i2 kr ⟨in_n o100 (by omega), fun _ => ?_, fun x => absurd rfl x⟩
      rw [ix_n (by omega), F2.1]
      exact k.1 _ _ rfl (sc_pI C2 (by omega)) ⟨TC_p (by omega) t2, FS_j (a := 3) rfl (by omega) F2⟩
    refine ⟨fun c6 => plain (fun x => c6 x.1), fun c6 => ?_⟩
    refine mX9_isWord (x := UInt32.ofNat 7) (e9 := ("PenSwings$Score", 122, "else")) i2 z2 hn4 al.2 t2 rfl ?_
    refine bX7_closeBlock_57 i2 kr ⟨fun c => plain (fun x => ?_), fun c => ⟨fun _ => ?_, fun x => absurd rfl x⟩⟩
    · rw [bL_0] at c
      have c' : wdS z n (adT z n f) "else" = false := c
      rw [c'] at x
      exact absurd x.2 (by decide)
    · rw [bL_1] at c
      change wdS z n (adT z n f) "else" = true at c
      rw [if_pos ⟨c6, c⟩] at k
      have al2 := wdS_ad c
      refine bX7_closeBlock_80 i2 kr ⟨fun x => absurd x (by decide), fun _ => ?_⟩
      rw [show (8 : Int32) = iI 8 from by decide]
      refine mX7_addStep i2 kr F2 (by simp only; omega) (fun g3 C3 F3 => ?_)
      have D3 := C2.tr (rw_sc C3)
      have i3 := D3.iv hi
      have t3 := TC_c C3 (fun k => (rw_2 hr k).2) t2
      refine bX7_closeBlock_91 i3 kr ⟨fun _ => ?_, fun x => absurd x (by decide)⟩
      refine bX7_closeBlock_100 i3 kr ⟨fun _ => ?_, fun x => absurd rfl x⟩
      refine bX7_closeBlock_130 i3 kr ⟨in_n o100 (by omega), fun x => absurd x (by decide), fun _ => ?_⟩
      rw [ix_n (by omega), F3.1]
      have D4 := sc_pI (j := 4) (k := o) (v := iI (((adS (s.1, s.2.1, O) 8).1 : Nat) : Int)) D3 (by omega)
      have F4 := FS_j (j := 4) (a := 3) (i := o) (v := (((adS (s.1, s.2.1, O) 8).1 : Nat) : Int)) rfl (by omega) F3
      have i4 := D4.iv hi
      have z4 := ZC_c D4 (sc_2 hr) hz
      have t4 := TC_p (o := r + 4) (k := o) (v := iI (((adS (s.1, s.2.1, O) 8).1 : Nat) : Int)) (by omega) t3
      refine mX9_adv i4 z4 hn4 al.2 t4 (fun g5 C5 t5 => ?_)
      have C5' := ta_ts C5
      have D5 := D4.tr (ts_sc C5')
      have i5 := D5.iv hi
      have F5 := FS_c C5' (ts_r hr) F4
      refine bX7_closeBlock_149 i5 kr (mX7_openBlock i5 hr kr (ZC_c D5 (sc_2 hr) hz) hn4 al2.2 t5 F5 (by show O.length < 5; omega) (by show 1 ≤ s.1 + 1; omega) ⟨fun g6 b rb C6 ok => ?_, fun g6 w p rb C6 g62 g63 => ?_⟩)
      · exact bX7_closeBlock_154 (C6.iv i5) ⟨.inr rfl, k.1 g6 b rb (D5.tr C6) ok⟩
      · exact bX7_closeBlock_154 (C6.iv i5) ⟨.inl rfl, k.2 g6 w p rb ((sc_sd D5).tr C6) g62 g63⟩
  · rw [if_pos c5] at k
    rw [if_pos c5] at j1
    refine bX7_closeBlock_64 i2 kr ⟨fun x => absurd x (by decide), fun _ => ?_⟩
    rw [show (7 : Int32) = iI 7 from by decide]
    refine mX7_addStep i2 kr F2 (by simp only; omega) (fun g3 C3 F3 => ?_)
    have D3 := C2.tr (rw_sc C3)
    have i3 := D3.iv hi
    have t3 := TC_c C3 (fun k => (rw_2 hr k).2) t2
    refine bX7_closeBlock_77 i3 kr ⟨fun x => absurd x (by decide), fun _ => ?_⟩
    refine bX7_closeBlock_80 i3 kr ⟨fun _ => ?_, fun x => absurd rfl x⟩
    refine bX7_closeBlock_100 i3 kr ⟨fun x => absurd x (by decide), fun _ => ?_⟩
    have e1 : gI g3 r 4 = iI ((s.1 + 1 : Nat) : Int) := F3.1
    have e2 : ∀ k v, gI (pI g3 (r + 4) k v) r 4 = iI ((s.1 + 1 : Nat) : Int) := fun k v => by rw [gI_pI, if_neg (by omega)]; exact e1
    rw [e2, e1, show iI ((s.1 + 1 : Nat) : Int) - 1 = iI ((s.1 : Nat) : Int) from by rw [n_1, su_n (by omega)]; rfl, ix_n (by omega), show iI (o : Int) + 1 = iI ((o + 1 : Nat) : Int) from by rw [n_1, ad_n]]
    refine ⟨in_n (by omega) (by omega), in_n (by omega) (by omega), ?_⟩
    have D4 := sc_pI (j := 2) (k := s.1) (v := iI ((o : Nat) : Int)) (sc_pI (j := 4) (k := s.1) (v := iI ((o + 1 : Nat) : Int)) D3 (by omega)) (by omega)
    have F4 := FS_j (j := 2) (a := 1) (i := s.1) (v := ((o : Nat) : Int)) rfl (by omega) (FS_j (j := 4) (a := 3) (i := s.1) (v := ((o + 1 : Nat) : Int)) rfl (by omega) F3)
    have t4 := TC_p (o := r + 2) (k := s.1) (v := iI ((o : Nat) : Int)) (by omega) (TC_p (o := r + 4) (k := s.1) (v := iI ((o + 1 : Nat) : Int)) (by omega) t3)
    refine bX7_closeBlock_130 (D4.iv hi) kr ⟨in_n o100 (by omega), fun _ => ?_, fun x => absurd rfl x⟩
    rw [ix_n (by omega), F4.1]
    exact k.1 _ _ rfl (sc_pI D4 (by omega)) ⟨TC_p (by omega) t4, FS_j (a := 3) rfl (by omega) F4⟩
def s0P : PF := (0, fun _ _ => 0, [])
theorem mX7_read {r f : Nat} (hi : Iv h) (hr : 2 < r) (kr : kd r = (7, 7)) (hz : ZC z h) (hn4 : n ≤ 400) (hf : f ≤ n) (ht : TC z n f h) (k : rdS r h Q (scR z n 401 s0P f) (fun a g => FS r a g)) : WM G jX7_read [.ref r, .ref 1] h Q := by
  have fin : ∀ (s : PF) (f' : Nat) (g : mH), s.2.2.length ≤ 5 → Ce (scS r) h g → TC z n f' g → FS r s g → scR z n 401 s0P f = (if s.2.2 = [] then .inr s else .inl (1, f')) → Vw G jX7_read 68 [some (.ref r), some (.ref 1), none, none] [] g Q := by
    intro s f' g l5 C t F e
    have gi := C.iv hi
    refine bX7_read_68 gi kr ?_
    rw [F.2.1, n_0, eq_n (by omega) (by omega)]
    refine ⟨fun c => ?_, fun c => ?_⟩
    · rw [if_pos (List.eq_nil_of_length_eq_zero c)] at e
      exact k.1 g s e C F
    · rw [if_neg (fun x => c (by rw [x]; rfl))] at e
      exact mX9_refuse gi t.2.2.2.1 (fun g2 C2 g22 g23 => bX7_read_80 (C2.iv gi) ⟨fun _ => k.2 g2 1 f' e ((sc_sd C).tr (tk_sd C2)) (by rw [g22]; exact n_1) g23, fun x => absurd rfl x⟩)
  have loop : ∀ (d i : Nat) (s : PF) (f' : Nat) (g : mH), i + d = 400 → i ≤ f' → f' ≤ n → SI s f' → SV s → Ce (scS r) h g → TC z n f' g → FS r s g → scR z n 401 s0P f = scR z n (d + 1) s f' → Vw G jX7_read 12 [some (.ref r), some (.ref 1), some (.int (iI (i : Nat))), none] [] g Q := by
    intro d
    induction d with
    | zero =>
      intro i s f' g hid hif hfn hI hV C t F e
      refine bX7_read_12 (C.iv hi) kr ⟨fun _ => fin s f' g hI.2.1 C t F ?_, fun c => absurd ?_ c⟩
      · rw [e]
        unfold scR
        rw [if_pos (show n ≤ f' from by omega)]
      · rw [n_400, le_n (by omega) (by omega)]; omega
    | succ d ih =>
      intro i s f' g hid hif hfn hI hV C t F e
      have gi := C.iv hi
      have zg := ZC_c C (sc_2 hr) hz
      have l5 := hI.2.1
      refine bX7_read_12 gi kr ⟨fun c => ?_, fun _ => ?_⟩
      · rw [n_400, le_n (by omega) (by omega)] at c
        omega
      rw [end_C t, show (41 : Int32) = iI 41 from by decide, sign_C (c := 41) zg hn4 t ⟨by decide, by decide⟩]
      refine ⟨fun c => ?_, fun c => ?_⟩
      · rw [bL_1] at c
        have c' := of_decide_eq_true c
        refine fin s f' g hI.2.1 C t F ?_
        rw [e]
        unfold scR
        rw [if_pos c']
      · rw [bL_0] at c
        have c' : ¬ n ≤ f' := of_decide_eq_false c
        have e' : scR z n 401 s0P f = bnd (rPie z n s f') fun r => scR z n (d + 1) r.1 r.2 := by
          rw [e]
          conv => lhs; unfold scR
          rw [if_neg c']
        have back : ∀ (w : (Nat × Nat) ⊕ (PF × Nat)), rPie z n s f' = w → rdS r g (fun x g2 => ∀ vs0, x = .inl (some (.int vs0)) → Vw G jX7_read 55 [some (.ref r), some (.ref 1), some (.int (iI (i : Nat))), none] [.int vs0] g2 Q) w (fun a g => TC z n a.2 g ∧ FS r a.1 g) := by
          intro w hw
          refine ⟨fun g2 a ra C2 ok vs0 hv => ?_, fun g2 w' p ra C2 g22 g23 vs0 hv => ?_⟩
          · cases hv
            subst hw
            have := rPie_r hI (by omega) ra
            refine bX7_read_55 (C2.iv gi) kr ⟨fun _ => ?_, fun x => absurd x (by decide)⟩
            rw [n_1, ad_n]
            refine ih (i + 1) a.1 a.2 g2 (by omega) (by omega) this.2.2 this.1 (rPie_v hV ra) (C.tr C2) ok.1 ok.2 ?_
            rw [e', ra]
            rfl
          · cases hv
            subst hw
            refine bX7_read_55 (C2.iv gi) kr ⟨fun x => absurd rfl x, fun _ => k.2 g2 w' p ?_ ((sc_sd C).tr C2) g22 g23⟩
            rw [e', ra]
            rfl
        have act : rPie z n s f' = rAct z n s f' → Vw G jX7_read 50 [some (.ref r), some (.ref 1), some (.int (iI (i : Nat))), none] [] g Q := fun ep => by
          have b := back _ ep
          refine bX7_read_50 gi kr (mX7_readAct gi hr kr zg hn4 hfn t F hI ⟨fun g2 a ra C2 ok => ?_, fun g2 w p ra C2 g22 g23 => ?_⟩)
          · exact b.1 g2 a ra C2 ok _ rfl
          · exact b.2 g2 w p ra C2 g22 g23 _ rfl
        rw [F.2.1, n_0, le_n (by omega) (by omega)]
        cases hO : s.2.2 with
        | nil =>
          refine ⟨fun _ => act (by unfold rPie; rw [hO]), fun x => absurd (Nat.le_refl 0) x⟩
        | cons o O =>
          refine ⟨fun x => absurd x (by show ¬ O.length + 1 ≤ 0; omega), fun _ => ⟨fun x => ?_, fun x => ?_⟩⟩
          · rw [← n_0, bL_0] at x
            exact act (by unfold rPie; rw [hO]; simp only; rw [if_neg (by rw [x]; decide)])
          · rw [← n_0, bL_1] at x
            have b := back (rClo z n s o O f') (by unfold rPie; rw [hO]; simp only; rw [if_pos x])
            refine mX7_closeBlock gi hr kr zg hn4 (by omega) t F hO hI hV ⟨fun g2 a ra C2 ok => ?_, fun g2 w p ra C2 g22 g23 => ?_⟩
            · exact bX7_read_47 (C2.iv gi) kr (b.1 g2 a ra C2 ok _ rfl)
            · exact bX7_read_47 (C2.iv gi) kr (b.2 g2 w p ra C2 g22 g23 _ rfl)
  refine eX7_read hi kr ?_
  have C0 : Ce (scS r) h (pI (pI h r 4 0) r 6 0) := sc_pI (j := 0) (sc_pI (j := 0) Ce.rf (by omega)) (by omega)
  rw [n_0] at C0
  rw [n_0]
  refine loop 400 0 s0P f _ (by omega) (by omega) hf ⟨by show 4 * (0 + 0) ≤ f; omega, by decide, fun o ho => by cases ho⟩ (fun i hi => absurd hi (by show ¬ i < 0; omega)) C0 (TC_p (by omega) (TC_p (by omega) ht)) ⟨?_, ?_, fun a i ha hi => absurd hi (by show ¬ i < 0; omega), trivial⟩ rfl
  · rw [gI_pI, if_neg (by omega), gI_pI, if_pos ⟨rfl, rfl⟩]; rfl
  · rw [gI_pI, if_pos ⟨rfl, rfl⟩]; rfl
end SCC4
