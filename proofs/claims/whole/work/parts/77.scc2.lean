section SCC2
variable {G : GX} {h : mH} {Q : mO → mH → Prop} {z : Nat → Int} {n : Nat}
theorem mX7_verbTold {f : Nat} (hi : Iv h) (hz : ZC z h) (hn4 : n ≤ 400) (hf : f ≤ n) (ht : TC z n f h) (k : Q (.inl (some (.int (iI (match vbT z n f with | none => -1 | some q => (q : Int)))))) h) : WM G jX7_verbTold [.ref 1] h Q := by
  unfold vbT at k
  refine eX7_verbTold hi (mX9_isWord (x := UInt32.ofNat 8) (e9 := ("PenSwings$Score", 79, "draw")) hi hz hn4 hf ht rfl ?_)
  refine bX7_verbTold_6 hi ⟨fun c0 => ?_, fun c0 => by rw [bL_1] at c0; rw [c0] at k; exact k⟩
  rw [bL_0] at c0
  rw [c0] at k
  refine mX9_isWord (x := UInt32.ofNat 9) (e9 := ("PenSwings$Score", 85, "lift")) hi hz hn4 hf ht rfl ?_
  refine bX7_verbTold_17 hi ⟨fun c1 => ?_, fun c1 => by rw [bL_1] at c1; rw [c1] at k; exact k⟩
  rw [bL_0] at c1
  rw [c1] at k
  refine mX9_isWord (x := UInt32.ofNat 10) (e9 := ("PenSwings$Score", 87, "penny")) hi hz hn4 hf ht rfl ?_
  refine bX7_verbTold_28 hi ⟨fun c2 => ?_, fun c2 => by rw [bL_1] at c2; rw [c2] at k; exact k⟩
  rw [bL_0] at c2
  rw [c2] at k
  refine mX9_isWord (x := UInt32.ofNat 11) (e9 := ("PenSwings$Score", 89, "size")) hi hz hn4 hf ht rfl ?_
  refine bX7_verbTold_39 hi ⟨fun c3 => ?_, fun c3 => by rw [bL_1] at c3; rw [c3] at k; exact k⟩
  rw [bL_0] at c3
  rw [c3] at k
  refine mX9_isWord (x := UInt32.ofNat 12) (e9 := ("PenSwings$Score", 90, "turn")) hi hz hn4 hf ht rfl ?_
  refine bX7_verbTold_50 hi ⟨fun c4 => ?_, fun c4 => by rw [bL_1] at c4; rw [c4] at k; exact k⟩
  rw [bL_0] at c4
  rw [c4] at k
  refine mX9_isWord (x := UInt32.ofNat 13) (e9 := ("PenSwings$Score", 92, "repeat")) hi hz hn4 hf ht rfl ?_
  refine bX7_verbTold_61 hi ⟨fun c5 => ?_, fun c5 => by rw [bL_1] at c5; rw [c5] at k; exact k⟩
  rw [bL_0] at c5
  rw [c5] at k
  refine mX9_isWord (x := UInt32.ofNat 14) (e9 := ("PenSwings$Score", 94, "when")) hi hz hn4 hf ht rfl ?_
  refine bX7_verbTold_72 hi ⟨fun c6 => by rw [bL_0] at c6; rw [c6] at k; exact k, fun c6 => by rw [bL_1] at c6; rw [c6] at k; exact k⟩
theorem mX7_testTold {f : Nat} (hi : Iv h) (hz : ZC z h) (hn4 : n ≤ 400) (hf : f ≤ n) (ht : TC z n f h) (k : Q (.inl (some (.int (iI (match tsT z n f with | none => -1 | some q => (q : Int)))))) h) : WM G jX7_testTold [.ref 1] h Q := by
  unfold tsT at k
  refine eX7_testTold hi (mX9_isWord (x := UInt32.ofNat 16) (e9 := ("PenSwings$Score", 111, "marked")) hi hz hn4 hf ht rfl ?_)
  refine bX7_testTold_6 hi ⟨fun c0 => ?_, fun c0 => by rw [bL_1] at c0; rw [c0] at k; exact k⟩
  rw [bL_0] at c0
  rw [c0] at k
  refine mX9_isWord (x := UInt32.ofNat 17) (e9 := ("PenSwings$Score", 113, "right")) hi hz hn4 hf ht rfl ?_
  refine bX7_testTold_17 hi ⟨fun c1 => ?_, fun c1 => by rw [bL_1] at c1; rw [c1] at k; exact k⟩
  rw [bL_0] at c1
  rw [c1] at k
  refine mX9_isWord (x := UInt32.ofNat 18) (e9 := ("PenSwings$Score", 115, "above")) hi hz hn4 hf ht rfl ?_
  refine bX7_testTold_28 hi ⟨fun c2 => ?_, fun c2 => by rw [bL_1] at c2; rw [c2] at k; exact k⟩
  rw [bL_0] at c2
  rw [c2] at k
  refine mX9_isWord (x := UInt32.ofNat 19) (e9 := ("PenSwings$Score", 117, "loud")) hi hz hn4 hf ht rfl ?_
  refine bX7_testTold_39 hi ⟨fun c3 => by rw [bL_0] at c3; rw [c3] at k; exact k, fun c3 => by rw [bL_1] at c3; rw [c3] at k; exact k⟩
theorem upR_up {R : Nat → Nat → Int} {a i : Nat} {v w : Int} : upR (upR R a i v) a i w = upR R a i w := by
  funext x y
  unfold upR
  by_cases c : x = a ∧ y = i
  · rw [if_pos c, if_pos c]
  · rw [if_neg c, if_neg c, if_neg c]
theorem bnd_l2 {α β : Type} {r : (Nat × Nat) ⊕ α} {k : α → β} {e : Nat × Nat} (h : bnd r (fun a => .inr (k a)) = .inl e) : r = .inl e := by
  cases r with
  | inl x => cases h; rfl
  | inr a => cases h
theorem sc_pI {r j k : Nat} {a b : mH} {v : Int32} (hC : Ce (scS r) a b) (hj : j ≤ 5) : Ce (scS r) a (pI b (r + j) k v) := hC.pI (by unfold scS rwS; rw [decide_eq_true ⟨by omega, by omega⟩, Bool.or_true]) v
theorem mX7_readTest {r f : Nat} {s : PF} (hi : Iv h) (hr : 2 < r) (kr : kd r = (7, 7)) (hz : ZC z h) (hn4 : n ≤ 400) (hf : f ≤ n) (ht : TC z n f h) (hF : FS r s h) (hs1 : 1 ≤ s.1) (hs : s.1 ≤ 100) (k : rdS r h Q (rTst z n s f) (fun a g => TC z n a.2 g ∧ FS r a.1 g)) : WM G jX7_readTest [.ref r, .ref 1] h Q := by
  unfold rTst at k
  have go26 : ∀ (q : Nat × Nat) (g : mH), q.1 ≤ 4 → q.2 ≤ n → Ce tsS h g → TC z n q.2 g → rTe2 z n s (rNot z n 4 0 f) = rTe2 z n s q → Vw G jX7_readTest 26 [some (.ref r), some (.ref 1), some (.int (iI (q.1 : Nat))), none] [] g Q := by
    intro q g q4 qn C t e
    have gi := C.iv hi
    have zg := ZC_c C ts_2 hz
    rw [e] at k
    unfold rTe2 at k
    obtain ⟨f1, f2, f3, f4⟩ := FS_c C (ts_r hr) hF
    refine bX7_readTest_26 gi kr (mX9_isWord (x := UInt32.ofNat 15) (e9 := ("PenSwings$Score", 106, "not")) gi zg hn4 qn t rfl ?_)
    refine bX7_readTest_32 gi kr ⟨fun c => ?_, fun c => ?_⟩
    · rw [bL_0] at c
      change wdS z n q.2 "not" = false at c
      rw [if_neg (by rw [c]; decide)] at k
      rw [f1, show (1 : Int32) = iI ((1 : Nat) : Int) from n_1, su_n hs1, ix_n (by omega), n_2, rem_n (by omega) (by omega) (by omega)]
      refine ⟨in_n (by omega) (by omega), ?_⟩
      generalize hg1 : pI g (r + 3) (s.1 - 1) (iI ((q.1 % 2 : Nat) : Int)) = g1
      have C1 : Ce (scS r) h g1 := by rw [← hg1]; exact sc_pI (ts_sc C) (by omega)
      have i1 := C1.iv hi
      have z1 := ZC_c C1 (sc_2 hr) hz
      have t1 : TC z n q.2 g1 := by rw [← hg1]; exact TC_p (by omega) t
      have F1 : FS r (s.1, upR s.2.1 2 (s.1 - 1) ((q.1 % 2 : Nat) : Int), s.2.2) g1 := by
        rw [← hg1]
        refine ⟨?_, ?_, fun x i hx hi' => ?_, ?_⟩
        · rw [gI_pI, if_neg (by omega)]; exact f1
        · rw [gI_pI, if_neg (by omega)]; exact f2
        · exact rowU (r := r) (a0 := 2) (i0 := s.1 - 1) (v := ((q.1 % 2 : Nat) : Int)) (o' := r + 3) rfl (P := fun x i => x < 4 ∧ i < s.1) (fun x i hP => f3 x i hP.1 hP.2) x i (.inl ⟨hx, hi'⟩)
        · refine opn_cg _ (fun k hk => ?_) f4
          rw [gI_pI, if_neg (by omega)]
      clear hg1
      refine mX7_testTold i1 z1 hn4 qn t1 ?_
      cases htt : tsT z n q.2 with
      | none =>
        rw [htt] at k
        refine bX7_readTest_59 i1 kr ⟨fun c2 => absurd m1_iI.symm c2, fun _ => ?_⟩
        exact mX9_refuse i1 t1.2.2.2.1 (fun g2 C2 g22 g23 => bX7_readTest_70 (C2.iv i1) ⟨.inl rfl, k.2 g2 1 q.2 rfl ((sc_sd C1).tr (tk_sd C2)) (by rw [g22]; exact n_1) g23⟩)
      | some t0 =>
        rw [htt] at k
        obtain ⟨tb, qn'⟩ := tsT_b htt
        have al := adT_lt (z := z) qn'
        refine bX7_readTest_59 i1 kr ⟨fun _ => ?_, fun c2 => absurd c2 ?_⟩
        · refine mX9_adv i1 z1 hn4 qn t1 (fun g2 C2 t2 => ?_)
          have C2' := ta_ts C2
          have D2 := C1.tr (ts_sc C2')
          have i2 := D2.iv hi
          have F2 := FS_c C2' (ts_r hr) F1
          refine bX7_readTest_75 i2 kr ?_
          rw [n_3, eq_n (by omega) (by omega), ← n_3]
          refine ⟨fun c3 => ?_, fun c3 => ?_⟩
          · simp only at k
            rw [if_pos c3] at k
            rw [show (0 : Int32) = iI 0 from by decide, show (3 : Int32) = iI 3 from by decide]
            refine mX7_readNumber i2 hr kr (ZC_c D2 (sc_2 hr) hz) hn4 al.2 t2 F2 hs1 hs (by omega) (by omega) (by omega) ⟨fun g3 a ra C3 ok => ?_, fun g3 w p ra C3 g32 g33 => ?_⟩
            · unfold rNm at ra
              obtain ⟨b, hb, ra⟩ := bnd_r ra
              cases ra
              rw [hb] at k
              obtain ⟨t3, f31, f32, f33, f34⟩ := ok
              have bb := rNu_r (v := b.1) (f' := b.2) hb
              refine bX7_readTest_101 (C3.iv i2) kr ⟨fun _ => ?_, fun c => absurd c (by decide)⟩
              simp only at f31
              rw [f31, show (1 : Int32) = iI ((1 : Nat) : Int) from n_1, su_n hs1, ix_n (by omega), ← n_1]
              have ev := f33 1 (s.1 - 1) (by omega) (by simp only; omega)
              unfold upR at ev
              simp only at ev
              rw [if_pos ⟨trivial, trivial⟩] at ev
              rw [show gI g3 (r + 2) (s.1 - 1) = iI b.1 from ev, show (3 : Int32) = iI 3 from by decide, iI_add]
              refine ⟨in_n (by omega) (by omega), in_n (by omega) (by omega), k.1 _ _ rfl (sc_pI (D2.tr C3) (by omega)) ⟨TC_p (by omega) t3, ?_, ?_, fun x i hx hi' => ?_, ?_⟩⟩
              · rw [gI_pI, if_neg (by omega)]; exact f31
              · rw [gI_pI, if_neg (by omega)]; exact f32
              · rw [← upR_up (v := b.1)]
                exact rowU (r := r) (a0 := 1) (i0 := s.1 - 1) (v := b.1 + 3) (o' := r + 2) rfl (P := fun x i => x < 4 ∧ i < s.1) (fun x i hP => f33 x i hP.1 hP.2) x i (.inl ⟨hx, hi'⟩)
              · refine opn_cg _ (fun k hk => ?_) f34
                rw [gI_pI, if_neg (by omega)]
            · have ra' := bnd_l2 ra
              rw [ra'] at k
              exact bX7_readTest_101 (C3.iv i2) kr ⟨fun c => absurd rfl c, fun _ => k.2 g3 w p rfl ((sc_sd D2).tr C3) g32 g33⟩
          · simp only at k
            rw [if_neg c3] at k
            obtain ⟨f31, f32, f33, f34⟩ := F2
            simp only at f31
            rw [f31, show (1 : Int32) = iI ((1 : Nat) : Int) from n_1, su_n hs1, ix_n (by omega), ← n_1]
            refine ⟨in_n (by omega) (by omega), k.1 _ _ rfl (sc_pI D2 (by omega)) ⟨TC_p (by omega) t2, ?_, ?_, fun x i hx hi' => ?_, ?_⟩⟩
            · rw [gI_pI, if_neg (by omega)]; exact f31
            · rw [gI_pI, if_neg (by omega)]; exact f32
            · exact rowU (r := r) (a0 := 1) (i0 := s.1 - 1) (v := (t0 : Int)) (o' := r + 2) rfl (P := fun x i => x < 4 ∧ i < s.1) (fun x i hP => f33 x i hP.1 hP.2) x i (.inl ⟨hx, hi'⟩)
            · refine opn_cg _ (fun k hk => ?_) f34
              rw [gI_pI, if_neg (by omega)]
        · simp only
          rw [m1_iI, iI_eq ⟨by omega, by omega⟩ ⟨by decide, by decide⟩]
          omega
    · rw [bL_1] at c
      change wdS z n q.2 "not" = true at c
      rw [if_pos c] at k
      exact mX9_refuse gi t.2.2.2.1 (fun g2 C2 g22 g23 => bX7_readTest_40 (C2.iv gi) ⟨.inl rfl, k.2 g2 2 q.2 rfl (tk_sd ((ts_tk C).tr C2)) (by rw [g22]; exact n_2) g23⟩)
  have loop : ∀ (d k' f' : Nat) (g : mH), k' + d = 4 → f' ≤ n → Ce tsS h g → TC z n f' g → rNot z n 4 0 f = rNot z n d k' f' → Vw G jX7_readTest 2 [some (.ref r), some (.ref 1), some (.int (iI (k' : Nat))), none] [] g Q := by
    intro d
    induction d with
    | zero =>
      intro k' f' g hk hf' C t e
      refine bX7_readTest_2 (C.iv hi) kr ⟨fun _ => go26 (k', f') g (by simp only; omega) hf' C t (by rw [e]; rfl), fun c => absurd ?_ c⟩
      rw [n_4, le_n (by omega) (by omega)]
      omega
    | succ d ih =>
      intro k' f' g hk hf' C t e
      have gi := C.iv hi
      refine bX7_readTest_2 gi kr ⟨fun c => ?_, fun _ => ?_⟩
      · rw [n_4, le_n (by omega) (by omega)] at c
        omega
      · refine mX9_isWord (x := UInt32.ofNat 15) (e9 := ("PenSwings$Score", 106, "not")) gi (ZC_c C ts_2 hz) hn4 hf' t rfl ?_
        refine bX7_readTest_13 gi kr ⟨fun c => ?_, fun c => ?_⟩
        · rw [bL_0] at c
          change wdS z n f' "not" = false at c
          unfold rNot at e
          rw [show (if wdS z n f' "not" = true then rNot z n d (k' + 1) (adT z n f') else (k', f')) = (k', f') from by rw [c]; rfl] at e
          exact go26 (k', f') g (by simp only; omega) hf' C t (by rw [← e]; rfl)
        · rw [bL_1] at c
          change wdS z n f' "not" = true at c
          have al := wdS_ad c
          refine mX9_adv gi (ZC_c C ts_2 hz) hn4 hf' t (fun g2 C2 t2 => ?_)
          have C2' := C.tr (ta_ts C2)
          refine bX7_readTest_23 (C2'.iv hi) kr ?_
          rw [n_1, ad_n]
          refine ih (k' + 1) (adT z n f') g2 (by omega) al.2 C2' t2 ?_
          rw [e]
          conv => lhs; unfold rNot
          rw [if_pos c]
  refine eX7_readTest hi kr ?_
  rw [n_0]
  exact loop 4 0 f h (by omega) hf Ce.rf ht rfl
end SCC2
