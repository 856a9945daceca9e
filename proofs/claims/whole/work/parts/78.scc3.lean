section SCC3
variable {G : GX} {h : mH} {Q : mO → mH → Prop} {z : Nat → Int} {n : Nat}
def SV (s : PF) : Prop := ∀ i, i < s.1 → 0 ≤ s.2.1 0 i ∧ s.2.1 0 i ≤ 8
theorem SV_ad {s : PF} {v : Int} (hV : SV s) (h0 : 0 ≤ v) (h8 : v ≤ 8) : SV (adS s v) := fun i hi => by
  have : i < s.1 + 1 := hi
  by_cases c : i = s.1
  · subst c; rw [adS_n]; exact ⟨h0, h8⟩
  · rw [adS_0 (by omega)]; exact hV i (by omega)
theorem rAct_v {s : PF} {f : Nat} {r : PF × Nat} (hV : SV s) (h : rAct z n s f = .inr r) : SV r.1 := by
  unfold rAct at h
  split at h
  · cases h
  · rename_i v hv
    obtain ⟨v6, fn, fl, an⟩ := vbT_b hv
    split at h
    · cases h
    · obtain ⟨e1, e2, _⟩ := rAc2_r v6 an h
      have := SV_ad (v := v) hV (by omega) (by omega)
      intro i hi
      rw [e1] at hi
      rw [e2]
      exact this i hi
theorem rClo_v {s : PF} {o f : Nat} {O : List Nat} {r : PF × Nat} (hV : SV s) (h : rClo z n s o O f = .inr r) : SV r.1 := by
  unfold rClo at h
  split at h
  · cases h
    have := SV_ad (v := 7) hV (by omega) (by omega)
    intro i hi
    simp only
    rw [upR_0 (by omega), upR_0 (by omega), upR_0 (by omega)]
    exact this i hi
  · split at h
    · have e := (rOpn_r h).1
      rw [e]
      have := SV_ad (v := 8) hV (by omega) (by omega)
      intro i hi
      simp only
      rw [upR_0 (by omega)]
      exact this i hi
    · cases h
      intro i hi
      simp only
      rw [upR_0 (by omega)]
      exact hV i hi
theorem rPie_v {s : PF} {f : Nat} {r : PF × Nat} (hV : SV s) (h : rPie z n s f = .inr r) : SV r.1 := by
  unfold rPie at h
  split at h
  · exact rAct_v hV h
  · split at h
    · exact rClo_v hV h
    · exact rAct_v hV h
theorem mX7_readAct {r f : Nat} {s : PF} (hi : Iv h) (hr : 2 < r) (kr : kd r = (7, 7)) (hz : ZC z h) (hn4 : n ≤ 400) (hf : f ≤ n) (ht : TC z n f h) (hF : FS r s h) (hI : SI s f) (k : rdS r h Q (rAct z n s f) (fun a g => TC z n a.2 g ∧ FS r a.1 g)) : WM G jX7_readAct [.ref r, .ref 1] h Q := by
  obtain ⟨j1, j2, j3⟩ := hI
  obtain ⟨f1, f2, f3, f4⟩ := id hF
  unfold rAct at k
  refine eX7_readAct hi kr (mX7_verbTold hi hz hn4 hf ht ?_)
  cases hv : vbT z n f with
  | none =>
    rw [hv] at k
    refine bX7_readAct_4 hi kr ⟨fun c => absurd m1_iI.symm c, fun _ => mX9_refuse hi ht.2.2.2.1 (fun g2 C2 g22 g23 => bX7_readAct_15 (C2.iv hi) ⟨.inl rfl, k.2 g2 1 f rfl (tk_sd C2) (by rw [g22]; exact n_1) g23⟩)⟩
  | some v =>
    rw [hv] at k
    obtain ⟨v6, fn, fl, an⟩ := vbT_b hv
    simp only at k ⊢
    have s100 : s.1 < 100 := by omega
    have go35 : ¬ (5 ≤ v ∧ 5 ≤ s.2.2.length) → Vw G jX7_readAct 35 [some (.ref r), some (.ref 1), some (.int (iI (v : Int)))] [] h Q := fun c => by
      rw [if_neg c] at k
      refine bX7_readAct_35 hi kr (mX7_addStep hi kr hF s100 (fun g1 C1 F1 => ?_))
      have i1 := C1.iv hi
      have z1 := ZC_c C1 (fun k => (rw_2 hr k).1) hz
      have t1 := TC_c C1 (fun k => (rw_2 hr k).2) ht
      refine bX7_readAct_40 i1 kr ⟨fun _ => mX9_adv i1 z1 hn4 hf t1 (fun g2 C2 t2 => ?_), fun c => absurd c (by decide)⟩
      have C2' := ta_ts C2
      have D2 : Ce (scS r) h g2 := (rw_sc C1).tr (ts_sc C2')
      have i2 := D2.iv hi
      have z2 := ZC_c D2 (sc_2 hr) hz
      have F2 := FS_c C2' (ts_r hr) F1
      have es : (adS s v).1 = s.1 + 1 := rfl
      unfold rAc2 at k
      have nm : ∀ {lo hi' : Int} {Q' : mO → mH → Prop}, 0 ≤ lo → lo ≤ 999 → 0 ≤ hi' ∧ hi' ≤ 999 → rdS r g2 Q' (rNm z n (adS s v) (adT z n f) lo hi') (fun a g => TC z n a.2 g ∧ FS r a.1 g) → WM G jX7_readNumber [.ref r, .ref 1, .int (iI lo), .int (iI hi')] g2 Q' := fun a b c d => mX7_readNumber i2 hr kr z2 hn4 an t2 F2 (by omega) (by omega) a b c d
      have op : ∀ {q : PF × Nat} {g3 : mH} {Q' : mO → mH → Prop}, q.1.1 = s.1 + 1 → q.1.2.2 = s.2.2 → s.2.2.length < 5 → q.2 ≤ n → Ce (scS r) g2 g3 → TC z n q.2 g3 → FS r q.1 g3 → rdS r g3 Q' (rOpn z n q.1 q.2) (fun a g => TC z n a.2 g ∧ FS r a.1 g) → WM G jX7_openBlock [.ref r, .ref 1] g3 Q' := fun e1 e2 l5 qn C3 t3 F3 k3 => mX7_openBlock (C3.iv i2) hr kr (ZC_c C3 (sc_2 hr) z2) hn4 qn t3 F3 (by rw [e2]; exact l5) (by omega) k3
      refine bX7_readAct_53 i2 kr ⟨fun e => ?_, fun e => ?_, fun e => ?_, fun e => ?_, fun e => ?_, fun e => ?_, fun e => ?_, fun e0 e1 e2 e3 e4 e5 e6 => ?_⟩
      · rw [n_0, eq_n (by omega) (by omega)] at e
        rw [if_pos (by omega)] at k
        rw [show (1 : Int32) = iI 1 from by decide, show (200 : Int32) = iI 200 from by decide]
        exact nm (by omega) (by omega) (by omega) ⟨fun g3 a ra C3 ok => bX7_readAct_105 (C3.iv i2) ⟨.inr rfl, k.1 g3 a ra (D2.tr C3) ok⟩, fun g3 w p ra C3 g32 g33 => bX7_readAct_105 (C3.iv i2) ⟨.inl rfl, k.2 g3 w p ra ((sc_sd D2).tr C3) g32 g33⟩⟩
      · rw [n_1, eq_n (by omega) (by omega)] at e
        rw [if_pos (by omega)] at k
        rw [show (1 : Int32) = iI 1 from by decide, show (200 : Int32) = iI 200 from by decide]
        exact nm (by omega) (by omega) (by omega) ⟨fun g3 a ra C3 ok => bX7_readAct_105 (C3.iv i2) ⟨.inr rfl, k.1 g3 a ra (D2.tr C3) ok⟩, fun g3 w p ra C3 g32 g33 => bX7_readAct_105 (C3.iv i2) ⟨.inl rfl, k.2 g3 w p ra ((sc_sd D2).tr C3) g32 g33⟩⟩
      · rw [n_2, eq_n (by omega) (by omega)] at e
        rw [if_neg (by omega), if_pos e] at k
        rw [show (9 : Int32) = iI 9 from by decide]
        exact mX7_readChange i2 hr kr z2 hn4 an t2 F2 (by omega) (by omega) (by omega) ⟨fun g3 a ra C3 ok => bX7_readAct_113 (C3.iv i2) ⟨.inr rfl, k.1 g3 a ra (D2.tr C3) ok⟩, fun g3 w p ra C3 g32 g33 => bX7_readAct_113 (C3.iv i2) ⟨.inl rfl, k.2 g3 w p ra ((sc_sd D2).tr C3) g32 g33⟩⟩
      · rw [n_3, eq_n (by omega) (by omega)] at e
        rw [if_neg (by omega), if_neg (by omega), if_pos e] at k
        rw [show (90 : Int32) = iI 90 from by decide]
        exact mX7_readChange i2 hr kr z2 hn4 an t2 F2 (by omega) (by omega) (by omega) ⟨fun g3 a ra C3 ok => bX7_readAct_121 (C3.iv i2) ⟨.inr rfl, k.1 g3 a ra (D2.tr C3) ok⟩, fun g3 w p ra C3 g32 g33 => bX7_readAct_121 (C3.iv i2) ⟨.inl rfl, k.2 g3 w p ra ((sc_sd D2).tr C3) g32 g33⟩⟩
      · rw [n_4, eq_n (by omega) (by omega)] at e
        rw [if_neg (by omega), if_neg (by omega), if_neg (by omega), if_pos e] at k
        exact k.1 g2 _ rfl D2 ⟨t2, F2⟩
      · rw [n_5, eq_n (by omega) (by omega)] at e
        rw [if_neg (by omega), if_neg (by omega), if_neg (by omega), if_neg (by omega), if_pos e] at k
        rw [show (0 : Int32) = iI 0 from by decide, show (20 : Int32) = iI 20 from by decide]
        refine nm (by omega) (by omega) (by omega) ⟨fun g3 a ra C3 ok => ?_, fun g3 w p ra C3 g32 g33 => ?_⟩
        · rw [ra] at k
          obtain ⟨v1, ea, _, _, l1, l2⟩ := rNm_r an ra
          refine bX7_readAct_130 (C3.iv i2) kr ⟨fun c => absurd c (by decide), fun _ => op (q := a) (by rw [ea]; rfl) (by rw [ea]; rfl) (by omega) l2 C3 ok.1 ok.2 ⟨fun g4 b rb C4 ok4 => ?_, fun g4 w p rb C4 g42 g43 => ?_⟩⟩
          · exact bX7_readAct_138 (C4.iv (C3.iv i2)) ⟨fun c => absurd c (by decide), fun _ => k.1 g4 b rb ((D2.tr C3).tr C4) ok4⟩
          · exact bX7_readAct_138 (C4.iv (C3.iv i2)) ⟨fun _ => k.2 g4 w p rb ((sc_sd (D2.tr C3)).tr C4) g42 g43, fun c => absurd rfl c⟩
        · rw [ra] at k
          exact bX7_readAct_130 (C3.iv i2) kr ⟨fun _ => k.2 g3 w p rfl ((sc_sd D2).tr C3) g32 g33, fun c => absurd rfl c⟩
      · rw [n_6, eq_n (by omega) (by omega)] at e
        rw [if_neg (by omega), if_neg (by omega), if_neg (by omega), if_neg (by omega), if_neg (by omega)] at k
        refine mX7_readTest i2 hr kr z2 hn4 an t2 F2 (by omega) (by omega) ⟨fun g3 a ra C3 ok => ?_, fun g3 w p ra C3 g32 g33 => ?_⟩
        · rw [ra] at k
          obtain ⟨v1, w1, ea, _, _, _, _, l1, l2⟩ := rTst_r an ra
          refine bX7_readAct_152 (C3.iv i2) kr ⟨fun c => absurd c (by decide), fun _ => op (q := a) (by rw [ea]; rfl) (by rw [ea]; rfl) (by omega) l2 C3 ok.1 ok.2 ⟨fun g4 b rb C4 ok4 => ?_, fun g4 w p rb C4 g42 g43 => ?_⟩⟩
          · exact bX7_readAct_160 (C4.iv (C3.iv i2)) ⟨fun c => absurd c (by decide), fun _ => k.1 g4 b rb ((D2.tr C3).tr C4) ok4⟩
          · exact bX7_readAct_160 (C4.iv (C3.iv i2)) ⟨fun _ => k.2 g4 w p rb ((sc_sd (D2.tr C3)).tr C4) g42 g43, fun c => absurd rfl c⟩
        · rw [ra] at k
          exact bX7_readAct_152 (C3.iv i2) kr ⟨fun _ => k.2 g3 w p rfl ((sc_sd D2).tr C3) g32 g33, fun c => absurd rfl c⟩
      · exfalso
        rw [n_0, eq_n (by omega) (by omega)] at e0
        rw [n_1, eq_n (by omega) (by omega)] at e1
        rw [n_2, eq_n (by omega) (by omega)] at e2
        rw [n_3, eq_n (by omega) (by omega)] at e3
        rw [n_4, eq_n (by omega) (by omega)] at e4
        rw [n_5, eq_n (by omega) (by omega)] at e5
        rw [n_6, eq_n (by omega) (by omega)] at e6
        omega
    have go27 : 5 ≤ v → Vw G jX7_readAct 27 [some (.ref r), some (.ref 1), some (.int (iI (v : Int)))] [] h Q := fun v5 => by
      refine bX7_readAct_27 hi kr ?_
      rw [f2, n_5, le_n (by omega) (by omega)]
      refine ⟨fun c => ?_, fun c => go35 (fun x => c x.2)⟩
      rw [if_pos ⟨v5, c⟩] at k
      refine bX7_readAct_43 hi (mX9_refuse hi ht.2.2.2.1 (fun g2 C2 g22 g23 => bX7_readAct_48 (C2.iv hi) ⟨.inl rfl, k.2 g2 2 f rfl (tk_sd C2) (by rw [g22]; exact n_2) g23⟩))
    refine bX7_readAct_4 hi kr ⟨fun _ => ?_, fun c => absurd c ?_⟩
    · rw [n_5, n_6, eq_n (by omega) (by omega), eq_n (by omega) (by omega)]
      exact ⟨fun e => go27 (by omega), fun e => ⟨fun e2 => go35 (by omega), fun e2 => go27 (by omega)⟩⟩
    · rw [m1_iI, iI_eq ⟨by omega, by omega⟩ ⟨by decide, by decide⟩]
      omega
end SCC3
