section SCM2
variable {G : GX} {h : mH} {Q : mO → mH → Prop} {z : Nat → Int} {n : Nat}
theorem strM_u : ∀ a, a < 19 → ∀ b, b < 19 → (strM a).length = (strM b).length → (∀ i, i < 8 → (strM a).toList.getD i 'a' = (strM b).toList.getD i 'a') → a = b := by decide +kernel
theorem wd_u {f a b : Nat} (ha : a < 19) (hb : b < 19) (h1 : wdS z n f (strM a) = true) (h2 : wdS z n f (strM b) = true) : a = b := by
  unfold wdS at h1 h2
  obtain ⟨x1, x2, x3⟩ := of_decide_eq_true h1
  obtain ⟨y1, y2, y3⟩ := of_decide_eq_true h2
  have el : (strM a).length = (strM b).length := by omega
  refine strM_u a ha b hb el (fun i _ => ?_)
  by_cases c : i < (strM a).length
  · have p := x3 i c
    have q := y3 i (by omega)
    rw [p] at q
    have : ((strM a).toList.getD i 'a').toNat = ((strM b).toList.getD i 'a').toNat := by omega
    exact Char.toNat_inj.mp this
  · have l1 : (strM a).toList.length ≤ i := by rw [String.length_toList]; omega
    have l2 : (strM b).toList.length ≤ i := by rw [String.length_toList]; omega
    rw [List.getD_eq_getElem?_getD, List.getD_eq_getElem?_getD, List.getElem?_eq_none l1, List.getElem?_eq_none l2]
theorem vbT_s {f v : Nat} (hv : v ≤ 6) : wdS z n f (strM (6 + v)) = true ↔ vbT z n f = some v := by
  have c : ∀ k, k ≤ 6 → wdS z n f (strM (6 + k)) = true → (wdS z n f (strM (6 + v)) = true ↔ some k = some v) := fun k hk hw => by
    constructor
    · intro w
      have := wd_u (by omega) (by omega) hw w
      congr 1
      omega
    · intro e
      cases e
      exact hw
  unfold vbT
  split
  · rename_i w; exact c 0 (by omega) w
  · split
    · rename_i w; exact c 1 (by omega) w
    · split
      · rename_i w; exact c 2 (by omega) w
      · split
        · rename_i w; exact c 3 (by omega) w
        · split
          · rename_i w; exact c 4 (by omega) w
          · split
            · rename_i w; exact c 5 (by omega) w
            · split
              · rename_i w; exact c 6 (by omega) w
              · rename_i w0 w1 w2 w3 w4 w5 w6
                refine ⟨fun w => ?_, fun e => by cases e⟩
                rcases (show v = 0 ∨ v = 1 ∨ v = 2 ∨ v = 3 ∨ v = 4 ∨ v = 5 ∨ v = 6 by omega) with rfl | rfl | rfl | rfl | rfl | rfl | rfl
                · exact absurd w w0
                · exact absurd w w1
                · exact absurd w w2
                · exact absurd w w3
                · exact absurd w w4
                · exact absurd w w5
                · exact absurd w w6
theorem tsT_s {f v : Nat} (hv : v ≤ 3) : wdS z n f (strM (15 + v)) = true ↔ tsT z n f = some v := by
  have c : ∀ k, k ≤ 3 → wdS z n f (strM (15 + k)) = true → (wdS z n f (strM (15 + v)) = true ↔ some k = some v) := fun k hk hw => by
    constructor
    · intro w
      have := wd_u (by omega) (by omega) hw w
      congr 1
      omega
    · intro e
      cases e
      exact hw
  unfold tsT
  split
  · rename_i w; exact c 0 (by omega) w
  · split
    · rename_i w; exact c 1 (by omega) w
    · split
      · rename_i w; exact c 2 (by omega) w
      · split
        · rename_i w; exact c 3 (by omega) w
        · rename_i w0 w1 w2 w3
          refine ⟨fun w => ?_, fun e => by cases e⟩
          rcases (show v = 0 ∨ v = 1 ∨ v = 2 ∨ v = 3 by omega) with rfl | rfl | rfl | rfl
          · exact absurd w w0
          · exact absurd w w1
          · exact absurd w w2
          · exact absurd w w3
def wmV (o : Option Nat) (b k : Nat) : Int := match o with
  | none => -1
  | some v => if b + v < k then ((b + v : Nat) : Int) else -1
theorem wmV_t {o : Option Nat} {b k : Nat} (ho : o = some (k - b)) (hb : b ≤ k) : wmV o b (k + 1) = (k : Nat) := by
  subst ho
  unfold wmV
  simp only
  rw [if_pos (by omega), show b + (k - b) = k from by omega]
theorem wmV_f {o : Option Nat} {b k : Nat} (ho : ¬ o = some (k - b)) (hb : b ≤ k) : wmV o b (k + 1) = wmV o b k := by
  unfold wmV
  cases o with
  | none => rfl
  | some v =>
    simp only
    have : ¬ b + v = k := fun e => ho (by rw [show v = k - b from by omega])
    by_cases c : b + v < k
    · rw [if_pos c, if_pos (by omega)]
    · rw [if_neg c, if_neg (by omega)]
theorem sign_Mb {f : Nat} {c : Int} (hz : ZM z h) (hn4 : n ≤ 400) (ht : TM z n f h) (hc : c = 59 ∨ c = 45 ∨ c = 40 ∨ c = 41) : fX11_isSign h (iI c) = bL (sgT z n f c) := by
  have s := sign_M hz hn4 ht hc
  unfold fX11_isSign
  cases e : sgT z n f c with
  | true =>
    have := s.mpr e
    rw [if_pos this.1, if_pos this.2]
    rfl
  | false =>
    by_cases c1 : gI h 83 15 = 3
    · rw [if_pos c1]
      rw [if_neg (fun c2 => by have := s.mp ⟨c1, c2⟩; rw [e] at this; cases this)]
      rfl
    · rw [if_neg c1]
      rfl
theorem sm_sc {a b : mH} (h : Cj smS a b) : Cj scM a b := h.wk (fun o k ho => by unfold scM at ho; rw [Bool.or_eq_false_iff] at ho; exact ho.1)
theorem nm_sf {a b : mH} (h : Cj nmS a b) : Cj sfM a b := h.wk (fun o k ho => by unfold sfM at ho; rw [Bool.or_eq_false_iff] at ho; exact ho.1)
theorem scM_sf {a b : mH} (h : Cj scM a b) : Cj sfM a b := h.wk (fun o k ho => by
  unfold sfM at ho
  rw [Bool.or_eq_false_iff] at ho
  unfold scM
  rw [Bool.or_eq_false_iff]
  refine ⟨?_, ho.2⟩
  have := ho.1
  unfold nmS at this
  unfold smS
  simp at this ⊢
  omega)
theorem pu_sc {q : Nat} {a b : mH} (h : Cj (puS q) a b) : Cj scM a b := h.wk (fun o k ho => by
  unfold scM at ho
  unfold puS
  simp at ho ⊢
  refine ⟨ho.1, ?_, ?_⟩
  · intro e
    have := ho.2.1
    omega
  · intro e
    have := ho.2.2 e
    omega)
theorem sm_pu {q : Nat} {a b : mH} (h : Cj smS a b) : Cj (puS q) a b := h.wk (fun o k ho => by unfold puS at ho; rw [Bool.or_eq_false_iff] at ho; exact ho.1)
theorem mX11_putsB {t : Nat} {x : Int32} {w p : Nat} (hi : Iv h) (ht : gI h 83 47 = iI (t : Nat)) (hb : t < 600) (hF : FM h w p) (k : ∀ g, Cj sfM h g → FM g w p → gI g 83 47 = iI ((t + 1 : Nat) : Int) → Q (.inl none) g) : WM G jX11_puts [.ref 83, .int x] h Q :=
  mX11_puts (z := fun _ => 0) (n := 0) (q := t) (xs := []) hi ⟨ht, fun j hj => absurd hj (by show ¬ j < 0; omega)⟩ hb (fun g C P _ _ F => k g (scM_sf (pu_sc C)) (F w p hF) P.1)
def opS (d o k : Nat) : Bool := smS o k || ((o == 106 && (k == d)) || ((o == 107 && (k == d)) || (o == 83 && (k == 48))))
theorem op_sc {d : Nat} {a b : mH} (h : Cj (opS d) a b) : Cj scM a b := h.wk (fun o k ho => by
  unfold scM at ho
  unfold opS
  simp at ho ⊢
  refine ⟨ho.1, ?_, ?_, ?_⟩
  · intro e
    have := ho.2.1
    omega
  · intro e
    have := ho.2.1
    omega
  · intro e
    have := ho.2.2 e
    omega)
theorem mX11_opens {f d : Nat} {v1 v2 : Int32} (hi : Iv h) (hz : ZM z h) (hn4 : n ≤ 400) (hf : f ≤ n) (ht : TM z n f h) (hg : gI h 83 10 = 0) (hd : gI h 83 48 = iI (d : Nat)) (hd5 : d < 5)
    (ky : ∀ g, sgT z n f 40 = true → Cj (opS d) h g → TM z n (adT z n f) g → gI g 83 10 = 0 → gI g 83 48 = iI ((d + 1 : Nat) : Int) → gI g 106 d = v1 → gI g 107 d = v2 → Q (.inl none) g)
    (kn : ∀ g, sgT z n f 40 = false → Cj sfM h g → FM g 1 f → Q (.inl none) g) : WM G jX11_opens [.ref 83, .int v1, .int v2] h Q := by
  refine eX11_opens hi ?_
  rw [show (40 : Int32) = iI 40 from by decide, sign_Mb hz hn4 ht (.inr (.inr (.inl rfl)))]
  refine mX11_need hi hz hn4 hf ht hg (fun hs g C t g10 => ?_) (fun hs g C F => ?_)
  · have g48 : gI g 83 48 = iI (d : Nat) := by rw [C.2.2.2 83 48 rfl]; exact hd
    have e : ∀ v, gI (pI g 106 d v) 83 48 = iI (d : Nat) := fun v => by rw [gI_pI, if_neg (by omega)]; exact g48
    have e2 : ∀ v w, gI (pI (pI g 106 d v) 107 d w) 83 48 = iI (d : Nat) := fun v w => by rw [gI_pI, if_neg (by omega)]; exact e v
    refine bX11_opens_10 (C.iv hi) ?_
    rw [g48, ix_n (by omega), e, ix_n (by omega), e2, n_1, ad_n]
    refine ⟨in_n hd5 (by omega), in_n hd5 (by omega), ky _ hs ((((C.wk (fun o k ho => by unfold opS at ho; rw [Bool.or_eq_false_iff] at ho; exact ho.1)).pI ?_ _).pI ?_ _).pI ?_ _) ?_ ?_ ?_ ?_ ?_⟩
    · unfold opS; simp
    · unfold opS; simp
    · unfold opS; simp
    · exact TM_p (.inr (by omega)) (TM_p (.inl (by omega)) (TM_p (.inl (by omega)) t))
    · rw [gI_pI, if_neg (by omega), gI_pI, if_neg (by omega), gI_pI, if_neg (by omega)]; exact g10
    · rw [gI_pI, if_pos ⟨rfl, rfl⟩]
    · rw [gI_pI, if_neg (by omega), gI_pI, if_neg (by omega), gI_pI, if_pos ⟨rfl, rfl⟩]
    · rw [gI_pI, if_neg (by omega), gI_pI, if_pos ⟨rfl, rfl⟩]
  · have g48 : gI g 83 48 = iI (d : Nat) := by rw [C.2.2.2 83 48 rfl]; exact hd
    have e : ∀ v, gI (pI g 106 d v) 83 48 = iI (d : Nat) := fun v => by rw [gI_pI, if_neg (by omega)]; exact g48
    refine bX11_opens_10 (C.iv hi) ?_
    rw [g48, ix_n (by omega), e, ix_n (by omega)]
    refine ⟨in_n hd5 (by omega), in_n hd5 (by omega), kn _ hs ((((nm_sf C).pI rfl _).pI rfl _).pI rfl _) ?_⟩
    exact FM_p (.inr (by omega)) (FM_p (.inl (by omega)) (FM_p (.inl (by omega)) F))
theorem mX11_test {f q : Nat} {s : PF} {x0 : Int32} (hi : Iv h) (hz : ZM z h) (hn4 : n ≤ 400) (hf : f ≤ n) (ht : TM z n f h) (hg : gI h 83 10 = 0) (hP : PT q [x0] h) (hq : q ≤ 590)
    (ky : ∀ g a, rTst z n s f = .inr a → Cj (puS q) h g → gI g 83 10 = 0 → TM z n a.2 g → PT q [x0, iI (a.1.2.1 2 (s.1 - 1)), iI (if a.1.2.1 1 (s.1 - 1) ≤ 2 then 15 + a.1.2.1 1 (s.1 - 1) else 18), iI (if a.1.2.1 1 (s.1 - 1) ≤ 2 then 0 else a.1.2.1 1 (s.1 - 1) - 3)] g → Q (.inl none) g)
    (kn : ∀ g w p t, rTst z n s f = .inl (w, p) → Cj sfM h g → FM g w p → t ≤ q + 4 → gI g 83 47 = iI (t : Nat) → Q (.inl none) g) : WM G jX11_test [.ref 83] h Q := by
  unfold rTst at ky kn
  have bad94 : ∀ (w p t k' : Nat) (v2 : Int32) (g : mH), rTe2 z n s (rNot z n 4 0 f) = .inl (w, p) → k' ≤ 5 → Cj sfM h g → FM g w p → t = q + 1 → gI g 83 47 = iI (t : Nat) → ¬ v2 = 18 → Vw G jX11_test 94 [some (.ref 83), some (.int (iI (k' : Nat))), some (.int v2), none] [] g Q := by
    intro w p t k' v2 g e hk C F ht g47 hv
    refine bX11_test_94 (C.iv hi) (mX11_putsB (C.iv hi) g47 (by omega) F (fun g2 C2 F2 t2 => ?_))
    have D2 := C.tr C2
    refine bX11_test_101 (D2.iv hi) (mX11_putsB (D2.iv hi) t2 (by omega) F2 (fun g3 C3 F3 t3 => ?_))
    have D3 := D2.tr C3
    refine bX11_test_106 (D3.iv hi) ⟨fun _ => mX11_putsB (D3.iv hi) t3 (by omega) F3 (fun g4 C4 F4 t4 => ?_), fun c => absurd c hv⟩
    have D4 := D3.tr C4
    exact bX11_test_126 (D4.iv hi) (kn g4 w p _ e D4 F4 (by omega) t4)
  have go45 : ∀ (k' f' : Nat) (g : mH), k' ≤ 4 → f' ≤ n → Cj smS h g → gI g 83 10 = 0 → TM z n f' g → wdS z n f' "not" = false → rNot z n 4 0 f = (k', f') → Vw G jX11_test 45 [some (.ref 83), some (.int (iI (k' : Nat))), none, none] [] g Q := by
    intro k' f' g k4 fn C g10 t hno e
    have gi := C.iv hi
    have zg := ZM_c C sm_89 hz
    have Pg := PT_c C hP
    rw [e] at ky kn bad94
    have eT : rTe2 z n s (k', f') = (match tsT z n f' with
      | none => .inl (1, f')
      | some t => if t = 3 then bnd (rNu z n (adT z n f') 0 3) fun a => .inr ((s.1, upR (upR s.2.1 2 (s.1 - 1) ((k' % 2 : Nat) : Int)) 1 (s.1 - 1) (a.1 + 3), s.2.2), a.2)
        else .inr ((s.1, upR (upR s.2.1 2 (s.1 - 1) ((k' % 2 : Nat) : Int)) 1 (s.1 - 1) (t : Int), s.2.2), adT z n f')) := by
      unfold rTe2
      simp only
      rw [if_neg (by rw [hno]; decide)]
      all_goals (cases tsT z n f' <;> rfl)
    have loop : ∀ (d j : Nat), j + d = 19 → 15 ≤ j → Vw G jX11_test 58 [some (.ref 83), some (.int (iI (k' : Nat))), some (.int (iI (wmV (tsT z n f') 15 j))), some (.int (iI (j : Nat)))] [] g Q := by
      intro d
      induction d with
      | zero =>
        intro j hj _
        have : j = 19 := by omega
        subst this
        refine bX11_test_58 gi ⟨fun _ => ?_, fun c => absurd (by decide) c⟩
        cases htt : tsT z n f' with
        | none =>
          rw [htt] at eT
          simp only at eT
          have em : iI (wmV none 15 19) = (-1 : Int32) := by decide
          rw [em]
          refine ⟨fun _ => ?_, fun c => absurd rfl c⟩
          refine mX11_need (b := false) gi zg hn4 fn t g10 (fun c => by cases c) (fun _ g2 C2 F2 => ?_)
          refine bad94 1 f' (q + 1) k' _ g2 eT (by omega) (nm_sf ((sm_nm C).tr C2)) F2 rfl ?_ (by decide)
          rw [C2.2.2.2 83 47 rfl]
          exact Pg.1
        | some t0 =>
          rw [htt] at eT
          simp only at eT
          obtain ⟨tb, fn'⟩ := tsT_b htt
          have al := adT_lt (z := z) fn'
          have em : wmV (some t0) 15 19 = ((15 + t0 : Nat) : Int) := by unfold wmV; simp only; rw [if_pos (by omega)]
          rw [em]
          refine ⟨fun c => absurd c ?_, fun _ => ?_⟩
          · rw [m1_iI, iI_eq ⟨by omega, by omega⟩ ⟨by decide, by decide⟩]; omega
          refine mX11_need (b := true) gi zg hn4 fn t g10 (fun _ g2 C2 t2 q2 => ?_) (fun c => by cases c)
          have D2 := C.tr C2
          have i2 := D2.iv hi
          have z2 := ZM_c D2 sm_89 hz
          have P2 := PT_c C2 Pg
          refine bX11_test_94 i2 ?_
          rw [n_2, rem_n (by omega) (by omega) (by omega)]
          refine mX11_puts (z := z) (n := n) i2 P2 (by show q + 1 < 600; omega) (fun g3 C3 P3 w3 T3 _ => ?_)
          have D3 := (sm_pu (q := q) D2).tr C3
          have i3 := D3.iv hi
          refine bX11_test_101 i3 (mX11_puts (z := z) (n := n) i3 P3 (by show q + 2 < 600; omega) (fun g4 C4 P4 w4 T4 _ => ?_))
          have D4 := D3.tr C4
          have i4 := D4.iv hi
          have z4 : ZM z g4 := ZM_c D4 (fun k => rfl) hz
          have t4 := T4 _ (T3 _ t2)
          have q4 : gI g4 83 10 = 0 := by rw [w4 83 (by omega) 10 (by omega), w3 83 (by omega) 10 (by omega)]; exact q2
          refine bX11_test_106 i4 ?_
          rw [show (18 : Int32) = iI ((18 : Nat) : Int) from by decide, eq_n (by omega) (by omega)]
          refine ⟨fun c => ?_, fun c => ?_⟩
          · rw [if_neg (by omega)] at eT
            refine mX11_puts (z := z) (n := n) i4 P4 (by show q + 3 < 600; omega) (fun g5 C5 P5 w5 T5 _ => bX11_test_126 ((D4.tr C5).iv hi) ?_)
            refine ky g5 _ eT (D4.tr C5) (by rw [w5 83 (by omega) 10 (by omega)]; exact q4) (T5 _ t4) ?_
            simp only
            have u2 : upR (upR s.2.1 2 (s.1 - 1) ((k' % 2 : Nat) : Int)) 1 (s.1 - 1) (t0 : Int) 2 (s.1 - 1) = ((k' % 2 : Nat) : Int) := by
              unfold upR
              rw [if_neg (by omega), if_pos ⟨rfl, rfl⟩]
            have u1 : upR (upR s.2.1 2 (s.1 - 1) ((k' % 2 : Nat) : Int)) 1 (s.1 - 1) (t0 : Int) 1 (s.1 - 1) = (t0 : Int) := by
              unfold upR
              rw [if_pos ⟨rfl, rfl⟩]
            rw [u2, u1, if_pos (by omega), if_pos (by omega), show (15 : Int) + (t0 : Int) = ((15 + t0 : Nat) : Int) from by omega, show iI 0 = (0 : Int32) from by decide]
            exact P5
          · have c3 : t0 = 3 := by omega
            subst c3
            rw [if_pos rfl] at eT
            rw [show (0 : Int32) = iI 0 from by decide, show (3 : Int32) = iI 3 from by decide]
            refine mX11_number i4 z4 hn4 al.2 t4 q4 (by omega) (by omega) (by omega) (fun g5 hw C5 t5 q5 => ?_) (fun g5 v hw C5 F5 => ?_)
            · have D5 := D4.tr (sm_pu C5)
              have rb : rNu z n (adT z n f') 0 3 = .inr (nuV z n (adT z n f'), adT z n (adT z n f')) := by unfold rNu; rw [if_pos hw]
              have vb := nuV_b hw
              rw [rb] at eT
              refine bX11_test_119 (D5.iv hi) (mX11_puts (z := z) (n := n) (D5.iv hi) (PT_c C5 P4) (by show q + 3 < 600; omega) (fun g6 C6 P6 w6 T6 _ => bX11_test_126 ((D5.tr C6).iv hi) ?_))
              refine ky g6 _ eT (D5.tr C6) (by rw [w6 83 (by omega) 10 (by omega)]; exact q5) (T6 _ t5) ?_
              simp only
              have u2 : upR (upR s.2.1 2 (s.1 - 1) ((k' % 2 : Nat) : Int)) 1 (s.1 - 1) (nuV z n (adT z n f') + 3) 2 (s.1 - 1) = ((k' % 2 : Nat) : Int) := by
                unfold upR
                rw [if_neg (by omega), if_pos ⟨rfl, rfl⟩]
              have u1 : upR (upR s.2.1 2 (s.1 - 1) ((k' % 2 : Nat) : Int)) 1 (s.1 - 1) (nuV z n (adT z n f') + 3) 1 (s.1 - 1) = nuV z n (adT z n f') + 3 := by
                unfold upR
                rw [if_pos ⟨rfl, rfl⟩]
              rw [u2, u1, if_neg (by omega), if_neg (by omega), show nuV z n (adT z n f') + 3 - 3 = nuV z n (adT z n f') from by omega, show (18 : Int) = ((15 + 3 : Nat) : Int) from by omega]
              exact P6
            · have rb : rNu z n (adT z n f') 0 3 = .inl (nuW z n (adT z n f') 0 3, adT z n f') := by unfold rNu; rw [if_neg hw]
              rw [rb] at eT
              have D5 := (scM_sf (pu_sc D4)).tr (nm_sf C5)
              refine bX11_test_119 (D5.iv hi) (mX11_putsB (t := q + 3) (D5.iv hi) (by rw [C5.2.2.2 83 47 rfl]; exact P4.1) (by omega) F5 (fun g6 C6 F6 t6 => bX11_test_126 ((D5.tr C6).iv hi) (kn g6 _ _ _ eT (D5.tr C6) F6 (by omega) t6)))
      | succ d ih =>
        intro j hj j15
        refine bX11_test_58 gi ⟨fun c => ?_, fun _ => ?_⟩
        · rw [show (18 : Int32) = iI ((18 : Nat) : Int) from by decide, lt_n (by omega) (by omega)] at c
          omega
        · refine mX11_is gi fn hn4 t (show j < 19 by omega) ?_
          have es := tsT_s (z := z) (n := n) (f := f') (v := j - 15) (by omega)
          rw [show 15 + (j - 15) = j from by omega] at es
          refine bX11_test_69 gi ⟨fun c => ?_, fun c => ?_⟩
          · rw [bL_0] at c
            refine bX11_test_74 gi ?_
            rw [n_1, ad_n, ← wmV_f (k := j) (fun x => by have := es.mpr x; rw [c] at this; cases this) j15]
            exact ih (j + 1) (by omega) (by omega)
          · rw [bL_1] at c
            refine bX11_test_74 gi ?_
            rw [n_1, ad_n, ← wmV_t (k := j) (es.mp c) j15]
            exact ih (j + 1) (by omega) (by omega)
    refine bX11_test_45 gi ⟨fun _ => ?_, fun c => absurd g10 (good_b.mp c)⟩
    have e0 : (-1 : Int32) = iI (wmV (tsT z n f') 15 15) := by
      unfold wmV
      cases tsT z n f' with
      | none => decide
      | some v => simp only; rw [if_neg (by omega)]; decide
    rw [e0, show (15 : Int32) = iI ((15 : Nat) : Int) from by decide]
    exact loop 4 15 (by omega) (by omega)
  have loop : ∀ (d k' f' : Nat) (g : mH), k' + d = 4 → f' ≤ n → Cj smS h g → gI g 83 10 = 0 → TM z n f' g → rNot z n 4 0 f = rNot z n d k' f' → Vw G jX11_test 2 [some (.ref 83), some (.int (iI (k' : Nat))), none, none] [] g Q := by
    intro d
    induction d with
    | zero =>
      intro k' f' g hk hf' C g10 t e
      have gi := C.iv hi
      have : k' = 4 := by omega
      subst this
      refine bX11_test_2 gi ⟨fun c => absurd g10 (good_b.mp c), fun _ => ?_⟩
      rw [show (14 : Int32) = iI ((14 : Nat) : Int) from by decide]
      refine mX11_is gi hf' hn4 t (by omega) (bX11_test_15 gi ⟨fun c => ?_, fun c => ⟨fun x => absurd (by decide) x, fun _ => ?_⟩⟩)
      · rw [bL_0] at c
        exact go45 4 f' g (by omega) hf' C g10 t c (by rw [e]; rfl)
      · rw [bL_1] at c
        have c' : wdS z n f' "not" = true := c
        have eT : rTe2 z n s (rNot z n 4 0 f) = .inl (2, f') := by
          rw [e]
          unfold rNot rTe2
          simp only
          rw [if_pos c']
        rw [n_2]
        refine mX11_wrong gi g10 t.2.2.2.1 (fun g2 C2 F2 => ?_)
        have D2 : Cj sfM h g2 := nm_sf ((sm_nm C).tr (wg_nm C2))
        have i2 := D2.iv hi
        have b2 := FM_bad F2 (by omega) (by omega)
        refine bX11_test_28 i2 ⟨fun _ => ?_, fun c => absurd (good_b.mpr b2) c⟩
        refine bX11_test_2 i2 ⟨fun _ => ?_, fun c => absurd (good_b.mpr b2) c⟩
        refine bX11_test_45 i2 ⟨fun c => absurd (good_b.mpr b2) c, fun _ => kn g2 2 f' (q + 1) eT D2 F2 (by omega) ?_⟩
        rw [C2.2.2 83 47 rfl, C.2.2.2 83 47 rfl]
        exact hP.1
    | succ d ih =>
      intro k' f' g hk hf' C g10 t e
      have gi := C.iv hi
      refine bX11_test_2 gi ⟨fun c => absurd g10 (good_b.mp c), fun _ => ?_⟩
      rw [show (14 : Int32) = iI ((14 : Nat) : Int) from by decide]
      refine mX11_is gi hf' hn4 t (by omega) (bX11_test_15 gi ⟨fun c => ?_, fun c => ⟨fun _ => ?_, fun x => ?_⟩⟩)
      · rw [bL_0] at c
        have c' : wdS z n f' "not" = false := c
        refine go45 k' f' g (by omega) hf' C g10 t c' ?_
        rw [e]
        unfold rNot
        rw [if_neg (by rw [c']; decide)]
      · rw [bL_1] at c
        have c' : wdS z n f' "not" = true := c
        have al := wdS_ad c'
        refine bX11_test_28 gi ⟨fun c => absurd g10 (good_b.mp c), fun _ => mX11_stp gi (ZM_c C sm_89 hz) hn4 hf' t (fun g2 C2 t2 => ?_)⟩
        have D2 := C.tr C2
        refine bX11_test_42 (D2.iv hi) ?_
        rw [n_1, ad_n]
        refine ih (k' + 1) (adT z n f') g2 (by omega) al.2 D2 (by rw [sm_10 C2]; exact g10) t2 ?_
        rw [e]
        conv => lhs; unfold rNot
        rw [if_pos c']
      · rw [n_4, eq_n (by omega) (by omega)] at x
        omega
  refine eX11_test hi ?_
  rw [n_0]
  exact loop 4 0 f h (by omega) hf Cj.rf hg ht rfl
end SCM2
