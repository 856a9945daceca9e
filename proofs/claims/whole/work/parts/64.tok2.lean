section TOK2
variable {G : GX} {h : mH} {Q : mO → mH → Prop}
/-- the token at f is the word s -/
def wdS (z : Nat → Int) (n f : Nat) (s : String) : Bool := decide (kdT z n f = 1 ∧ enT z n f - f = s.length ∧ ∀ i, i < s.length → z (f + i) = ((s.toList.getD i 'a').toNat : Int))
theorem sch_b : ∀ n, n < 28 → ∀ k, k < 40 → (((sTab.getD n ("", 0, "")).2.2.toList.getD k 'a').toNat) ≤ 127 := by decide +kernel
theorem sTab_d {x : Nat} {e : String × Nat × String} (hs : sTab[x]? = some e) : x < 28 ∧ sTab.getD x ("", 0, "") = e := by
  have h1 : x < sTab.length := by
    rcases Nat.lt_or_ge x sTab.length with l | l
    · exact l
    · rw [List.getElem?_eq_none l] at hs; cases hs
  refine ⟨Nat.lt_of_lt_of_le h1 (by decide), ?_⟩
  rw [List.getD_eq_getElem?_getD, hs]
  rfl
theorem TC_fn {z : Nat → Int} {n f : Nat} {g : mH} (ht : TC z n f g) : TC z n f g := ht
theorem mX9_isWord {z : Nat → Int} {n f : Nat} {x : UInt32} {e9 : String × Nat × String} (hi : Iv h) (hz : ZC z h) (hn4 : n ≤ 400) (hf : f ≤ n) (ht : TC z n f h) (hs : sTab[x.toNat]? = some e9) (k : Q (.inl (some (.int (bL (wdS z n f e9.2.2))))) h) : WM G jX9_isWord [.ref 1, .float x] h Q := by
  obtain ⟨t5, t6, t7, t8, t9, t10⟩ := ht
  obtain ⟨x28, xe⟩ := sTab_d hs
  have len40 : e9.2.2.length < 40 := by have := sCh_len x.toNat x28; rw [xe] at this; exact this
  have cb : ∀ i, i < e9.2.2.length → (e9.2.2.toList.getD i 'a').toNat ≤ 127 := fun i hi => by have := sch_b x.toNat x28 i (by omega); rw [xe] at this; exact this
  obtain ⟨en1, en2, en3⟩ := enT_b (z := z) hf
  have kb := (kdT_c (z := z) (n := n) (f := f)).2.2.2.2
  have no : ¬ (kdT z n f = 1 ∧ enT z n f - f = e9.2.2.length ∧ ∀ i, i < e9.2.2.length → z (f + i) = ((e9.2.2.toList.getD i 'a').toNat : Int)) → Q (.inl (some (.int 0))) h := fun w => by
    unfold wdS at k
    rw [decide_eq_false w] at k
    exact k
  refine eX9_isWord hi hs ⟨fun c => no (fun w => c ?_), fun c => ?_⟩
  · rw [t7, w.1]; decide
  · rw [t7, n_1, eq_n (by omega) (by omega)] at c
    refine mJ0_length_8abf5 hs ?_
    rw [show Int32.ofNat e9.2.2.length = iI (e9.2.2.length : Nat) from (Int32.ofInt_eq_ofNat).symm, t6, t8, su_n en1]
    refine bX9_isWord_21 hi hs ⟨fun w => ?_, fun w => no (fun y => w (by rw [y.2.1]))⟩
    rw [eq_n (by omega) (by omega)] at w
    rw [n_0]
    have loop : ∀ (d i : Nat), i + d = e9.2.2.length → (∀ j, j < i → z (f + j) = ((e9.2.2.toList.getD j 'a').toNat : Int)) → Vw G jX9_isWord 28 [some (.ref 1), some (.float x), some (.int (iI i))] [] h Q := by
      intro d
      induction d with
      | zero =>
        intro i hi' hd
        have : i = e9.2.2.length := by omega
        refine bX9_isWord_28 hi hs (mJ0_length_8abf5 hs ?_)
        rw [show Int32.ofNat e9.2.2.length = iI (e9.2.2.length : Nat) from (Int32.ofInt_eq_ofNat).symm]
        refine bX9_isWord_33 hi hs ⟨fun _ => ?_, fun y => absurd ?_ y⟩
        · unfold wdS at k
          rw [decide_eq_true ⟨c, w, fun j hj => hd j (by omega)⟩] at k
          exact k
        · rw [le_n (by omega) (by omega)]; omega
      | succ d ih =>
        intro i hi' hd
        have e1 : iI (i : Int) + 1 = iI ((i + 1 : Nat) : Int) := by rw [n_1, ad_n]
        have hil : i < e9.2.2.length := by omega
        have hfi : f + i < 400 := by omega
        have cbi := cb i hil
        have zb := hz (f + i) hfi
        refine bX9_isWord_28 hi hs (mJ0_length_8abf5 hs ?_)
        rw [show Int32.ofNat e9.2.2.length = iI (e9.2.2.length : Nat) from (Int32.ofInt_eq_ofNat).symm]
        refine bX9_isWord_33 hi hs ⟨fun y => ?_, fun _ => ?_⟩
        · rw [le_n (by omega) (by omega)] at y
          omega
        · rw [t8, ad_n, ix_n (by omega), zb.1]
          refine ⟨in_n (by omega) (by omega), mJ0_charAt_5068e hs (in_n (by omega) (by omega)) ?_ ?_ ?_⟩
          · rw [iI_ge0 ⟨by omega, by omega⟩]; omega
          · rw [show Int32.ofNat e9.2.2.length = iI (e9.2.2.length : Nat) from (Int32.ofInt_eq_ofNat).symm, lt_n (by omega) (by omega)]; exact hil
          · have hsc : sCh e9 (iI (i : Int)) = iI ((e9.2.2.toList.getD i 'a').toNat : Nat) := by
              unfold sCh
              rw [ix_n (by omega)]
              exact (Int32.ofInt_eq_ofNat).symm
            rw [hsc]
            refine bX9_isWord_52 hi hs ⟨fun y => ?_, fun y => no (fun u => y (by rw [u.2.2 i hil]))⟩
            rw [iI_eq ⟨by omega, by omega⟩ ⟨by omega, by omega⟩] at y
            rw [e1]
            refine ih (i + 1) (by omega) (fun j hj => ?_)
            by_cases c2 : j = i
            · subst c2; exact y
            · exact hd j (by omega)
    exact loop e9.2.2.length 0 (by omega) (fun j hj => absurd hj (by omega))
/-- the token at f is the sign c -/
def sgT (z : Nat → Int) (n f : Nat) (c : Int) : Bool := decide (kdT z n f = 3 ∧ z f = c)
theorem sign_C {z : Nat → Int} {n f : Nat} {c : Int} (hz : ZC z h) (hn4 : n ≤ 400) (ht : TC z n f h) (hc : r31 c) : fX9_isSign h (iI c) = bL (sgT z n f c) := by
  obtain ⟨t5, t6, t7, t8, t9, t10⟩ := ht
  have kc := kdT_c (z := z) (n := n) (f := f)
  unfold fX9_isSign sgT bL
  rw [t7, n_3]
  by_cases c1 : kdT z n f = 3
  · rw [if_pos (by rw [c1]), t10 c1]
    have hfn := (kc.2.2.2.1.mp c1).1
    have zb := hz f (by omega)
    by_cases c2 : z f = c
    · rw [if_pos (by rw [c2]), decide_eq_true ⟨c1, c2⟩]; rfl
    · rw [if_neg (fun w => c2 ((iI_eq ⟨by omega, by omega⟩ hc).mp w)), decide_eq_false (fun w => c2 w.2)]; rfl
  · rw [if_neg (fun w => c1 ((eq_n (by omega) (by omega)).mp w)), decide_eq_false (fun w => c1 w.1)]; rfl
def tkS (o k : Nat) : Bool := o == 1 && (k == 2 || (k == 3 || (k == 4 || (k == 6 || (k == 7 || (k == 8 || (k == 9)))))))
def tsS (o k : Nat) : Bool := o == 1 && (k == 4 || (k == 6 || (k == 7 || (k == 8 || (k == 9)))))
theorem ta_ts {a b : mH} (h : Ce taS a b) : Ce tsS a b := h.wk (fun o k ho => by unfold tsS at ho; unfold taS; simp at ho ⊢; intro e; have := ho e; omega)
theorem ts_tk {a b : mH} (h : Ce tsS a b) : Ce tkS a b := h.wk (fun o k ho => by unfold tkS at ho; unfold tsS; simp at ho ⊢; intro e; have := ho e; omega)
theorem ta_tk {a b : mH} (h : Ce taS a b) : Ce tkS a b := h.wk (fun o k ho => by unfold tkS at ho; unfold taS; simp at ho ⊢; intro e; have := ho e; omega)
theorem mX9_refuse {w : Int32} {f : Nat} (hi : Iv h) (h8 : gI h 1 8 = iI f) (k : ∀ g, Ce tkS h g → gI g 1 2 = w → gI g 1 3 = iI f → Q (.inl (some (.int 0))) g) : WM G jX9_refuse [.ref 1, .int w] h Q := by
  refine eX9_refuse hi (k _ ((Ce.rf.pI rfl _).pI rfl _) ?_ ?_)
  · rw [gI_pI, if_neg (by omega), gI_pI, if_pos ⟨rfl, rfl⟩]
  · rw [gI_pI, if_pos ⟨rfl, rfl⟩, gI_pI, if_neg (by omega)]; exact h8
/-- what reading goes on with: the next token, or a fault (kind, place) -/
theorem mX9_adv {z : Nat → Int} {n f : Nat} (hi : Iv h) (hz : ZC z h) (hn4 : n ≤ 400) (hf : f ≤ n) (ht : TC z n f h) (k : ∀ g, Ce taS h g → TC z n (adT z n f) g → Q (.inl none) g) : WM G jX9_advance [.ref 1] h Q :=
  mX9_advance hi hz hn4 (enT_b hf).2.1 ht.1 ht.2.1 k
theorem mX9_takeSign {z : Nat → Int} {n f : Nat} {c : Int} (hi : Iv h) (hz : ZC z h) (hn4 : n ≤ 400) (hf : f ≤ n) (ht : TC z n f h) (hc : r31 c) (ky : ∀ g, sgT z n f c = true → Ce tsS h g → TC z n (adT z n f) g → Q (.inl (some (.int 1))) g) (kn : ∀ g, sgT z n f c = false → Ce tkS h g → gI g 1 2 = 1 → gI g 1 3 = iI f → Q (.inl (some (.int 0))) g) : WM G jX9_takeSign [.ref 1, .int (iI c)] h Q := by
  refine eX9_takeSign hi ?_
  rw [sign_C hz hn4 ht hc]
  refine ⟨fun w => ?_, fun w => ?_⟩
  · rw [bL_1] at w
    exact mX9_adv hi hz hn4 hf ht (fun g C t => bX9_takeSign_18 (C.iv hi) (ky g w (ta_ts C) t))
  · rw [bL_0] at w
    exact mX9_refuse hi ht.2.2.2.1 (fun g C g2 g3 => bX9_takeSign_13 (C.iv hi) ⟨.inl rfl, kn g w C g2 g3⟩)
/-- a number between lo and hi: its value, or what is wrong -/
def nuB (z : Nat → Int) (n f : Nat) (lo hi : Int) : Bool := decide (enT z n f - f ≤ 3 ∧ lo ≤ vlT z f (enT z n f - f) ∧ vlT z f (enT z n f - f) ≤ hi)
def nuV (z : Nat → Int) (n f : Nat) : Int := vlT z f (enT z n f - f)
def nuW (z : Nat → Int) (n f : Nat) (lo hi : Int) : Nat := if kdT z n f = 2 then (if nuB z n f lo hi then 0 else 2) else 1
theorem dig_all {z : Nat → Int} {n f : Nat} (hf : f ≤ n) (hk : kdT z n f = 2) : ∀ j, j < enT z n f - f → cD (z (f + j)) = true := by
  obtain ⟨c1, c2, c3⟩ := kdT_c.2.2.1.mp hk
  intro j hj
  by_cases c : j = 0
  · subst c; exact c3
  · have en : enT z n f = rn cD z n (f + 1) := by unfold enT; rw [if_neg (by omega), c2]; simp [c3]
    have := (rn_b (p := cD) (z := z) (n := n) (n - (f + 1)) (f + 1) (by omega)).2.2.1 (f + j) (by omega) (by omega)
    exact this
theorem nuV_b {z : Nat → Int} {n f : Nat} {lo hi : Int} (h : nuW z n f lo hi = 0) : lo ≤ nuV z n f ∧ nuV z n f ≤ hi := by
  unfold nuW at h
  split at h
  · split at h
    · rename_i hb
      unfold nuB at hb
      have := of_decide_eq_true hb
      exact ⟨this.2.1, this.2.2⟩
    · omega
  · omega
theorem mX9_takeNumber {z : Nat → Int} {n f : Nat} {lo hi' : Int} (hi : Iv h) (hz : ZC z h) (hn4 : n ≤ 400) (hf : f ≤ n) (ht : TC z n f h) (hlo : 0 ≤ lo) (hlh : lo ≤ 999) (hhi : 0 ≤ hi' ∧ hi' ≤ 999) (ky : ∀ g, nuW z n f lo hi' = 0 → Ce tsS h g → TC z n (adT z n f) g → gI g 1 4 = iI (nuV z n f) → Q (.inl (some (.int 1))) g) (kn : ∀ g, nuW z n f lo hi' ≠ 0 → Ce tkS h g → gI g 1 2 = iI (nuW z n f lo hi' : Nat) → gI g 1 3 = iI f → Q (.inl (some (.int 0))) g) : WM G jX9_takeNumber [.ref 1, .int (iI lo), .int (iI hi')] h Q := by
  obtain ⟨t5, t6, t7, t8, t9, t10⟩ := id ht
  have kb := (kdT_c (z := z) (n := n) (f := f)).2.2.2.2
  refine eX9_takeNumber hi ⟨fun w => ?_, fun w => ?_⟩
  · rw [t7, n_2, eq_n (by omega) (by omega)] at w
    have en := enT_b (z := z) hf
    have hfn := (kdT_c.2.2.1.mp w).1
    have vb := vlT_b (z := z) (f := f) (enT z n f - f) (dig_all hf w)
    have v9 := t9 w
    have no : nuB z n f lo hi' = false → Vw G jX9_takeNumber 30 [some (.ref 1), none, none] [] h Q := fun y => by
      have hw : nuW z n f lo hi' = 2 := by unfold nuW; rw [if_pos w, y]; rfl
      refine bX9_takeNumber_30 hi (mX9_refuse hi t8 (fun g C g2 g3 => bX9_takeNumber_35 (C.iv hi) ⟨.inl rfl, kn g (by omega) C ?_ g3⟩))
      rw [g2, hw]; exact n_2
    by_cases c3 : enT z n f - f ≤ 3
    · have vb9 : vlT z f (enT z n f - f) ≤ 999 := by
        rcases (show enT z n f - f = 1 ∨ enT z n f - f = 2 ∨ enT z n f - f = 3 from by have := en.2.2 hfn; omega) with q | q | q
        · have := vb.2.1 q; omega
        · have := vb.2.2.1 q; omega
        · exact vb.2.2.2 q
      rw [v9, if_pos c3, iI_lt ⟨by omega, by omega⟩ ⟨by omega, by omega⟩, iI_le ⟨by omega, by omega⟩ ⟨by omega, by omega⟩]
      refine ⟨fun y => no ?_, fun y => ⟨fun x => ?_, fun x => no ?_⟩⟩
      · unfold nuB; exact decide_eq_false (by omega)
      · have hw : nuW z n f lo hi' = 0 := by unfold nuW nuB; rw [if_pos w, decide_eq_true ⟨c3, by omega, x⟩]; rfl
        have h2 : Iv (pI h 1 4 (iI (vlT z f (enT z n f - f)))) := hi
        have C1 : Ce tsS h (pI h 1 4 (iI (vlT z f (enT z n f - f)))) := Ce.rf.pI rfl _
        have r : ∀ j, j ≠ 4 → gI (pI h 1 4 (iI (vlT z f (enT z n f - f)))) 1 j = gI h 1 j := fun j hj => by rw [gI_pI, if_neg (by omega)]
        refine mX9_adv h2 (fun i hi => by rw [gI_pI, if_neg (by omega)]; exact hz i hi) hn4 hf ⟨by rw [r 5 (by omega)]; exact t5, by rw [r 6 (by omega)]; exact t6, by rw [r 7 (by omega)]; exact t7, by rw [r 8 (by omega)]; exact t8, fun q => by rw [r 9 (by omega)]; exact t9 q, fun q => by rw [r 9 (by omega)]; exact t10 q⟩ (fun g C t => bX9_takeNumber_48 (C.iv h2) (ky g hw (C1.tr (ta_ts C)) t ?_))
        rw [C.2.2 1 4 rfl, gI_pI, if_pos ⟨rfl, rfl⟩]
        rfl
      · unfold nuB; exact decide_eq_false (by omega)
    · rw [v9, if_neg c3, iI_lt ⟨by decide, by decide⟩ ⟨by omega, by omega⟩, iI_le ⟨by decide, by decide⟩ ⟨by omega, by omega⟩]
      have hno : nuB z n f lo hi' = false := by unfold nuB; exact decide_eq_false (by omega)
      exact ⟨fun _ => no hno, fun _ => ⟨fun x => by omega, fun _ => no hno⟩⟩
  · rw [t7, n_2, eq_n (by omega) (by omega)] at w
    have hw : nuW z n f lo hi' = 1 := by unfold nuW; rw [if_neg w]
    refine mX9_refuse hi t8 (fun g C g2 g3 => bX9_takeNumber_13 (C.iv hi) ⟨.inl rfl, kn g (by omega) C ?_ g3⟩)
    rw [g2, hw]; exact n_1
/-- a number with a sign: where it begins, its value -/
def snP (z : Nat → Int) (n f : Nat) : Nat := if sgT z n f 45 then adT z n f else f
def snV (z : Nat → Int) (n f : Nat) : Int := if sgT z n f 45 then -(nuV z n (snP z n f)) else nuV z n (snP z n f)
theorem snP_b {z : Nat → Int} {n f : Nat} (hf : f ≤ n) : f ≤ snP z n f ∧ snP z n f ≤ n := by
  have a := adT_b (z := z) hf
  have b := enT_b (z := z) hf
  unfold snP
  split <;> omega
theorem mX9_takeSigned {z : Nat → Int} {n f : Nat} {hi' : Int} (hi : Iv h) (hz : ZC z h) (hn4 : n ≤ 400) (hf : f ≤ n) (ht : TC z n f h) (hhi : 0 ≤ hi' ∧ hi' ≤ 999) (ky : ∀ g, nuW z n (snP z n f) 0 hi' = 0 → Ce tsS h g → TC z n (adT z n (snP z n f)) g → gI g 1 4 = iI (snV z n f) → Q (.inl (some (.int 1))) g) (kn : ∀ g, nuW z n (snP z n f) 0 hi' ≠ 0 → Ce tkS h g → gI g 1 2 = iI (nuW z n (snP z n f) 0 hi' : Nat) → gI g 1 3 = iI (snP z n f : Nat) → Q (.inl (some (.int 0))) g) : WM G jX9_takeSigned [.ref 1, .int (iI hi')] h Q := by
  have hs := sign_C hz hn4 ht (c := 45) ⟨by decide, by decide⟩
  have sb := snP_b (z := z) hf
  have go : ∀ (g1 : mH), Ce tsS h g1 → TC z n (snP z n f) g1 → Vw G jX9_takeSigned 15 [some (.ref 1), some (.int (iI hi')), some (.int (bL (sgT z n f 45)))] [] g1 Q := fun g1 C1 t1 => by
    have i1 := C1.iv hi
    refine bX9_takeSigned_15 i1 ?_
    rw [show (0 : Int32) = iI 0 from by decide]
    refine mX9_takeNumber i1 (fun i hi => by rw [C1.2.2 2 i rfl]; exact hz i hi) hn4 sb.2 t1 (by omega) (by omega) hhi (fun g hw C t g4 => ?_) (fun g hw C g2 g3 => ?_)
    · refine bX9_takeSigned_21 (C.iv i1) ⟨fun _ => ⟨fun y => ?_, fun y => ?_⟩, fun y => absurd y (by decide)⟩
      · rw [bL_0] at y
        rw [g4]
        refine ky _ hw ((C1.tr C).pI rfl _) ?_ ?_
        · exact ⟨by rw [gI_pI, if_neg (by omega)]; exact t.1, by rw [gI_pI, if_neg (by omega)]; exact t.2.1, by rw [gI_pI, if_neg (by omega)]; exact t.2.2.1, by rw [gI_pI, if_neg (by omega)]; exact t.2.2.2.1, fun q => by rw [gI_pI, if_neg (by omega)]; exact t.2.2.2.2.1 q, fun q => by rw [gI_pI, if_neg (by omega)]; exact t.2.2.2.2.2 q⟩
        · rw [gI_pI, if_pos ⟨rfl, rfl⟩]
          unfold snV
          rw [y]; rfl
      · rw [bL_1] at y
        rw [g4, iI_neg]
        refine ky _ hw ((C1.tr C).pI rfl _) ?_ ?_
        · exact ⟨by rw [gI_pI, if_neg (by omega)]; exact t.1, by rw [gI_pI, if_neg (by omega)]; exact t.2.1, by rw [gI_pI, if_neg (by omega)]; exact t.2.2.1, by rw [gI_pI, if_neg (by omega)]; exact t.2.2.2.1, fun q => by rw [gI_pI, if_neg (by omega)]; exact t.2.2.2.2.1 q, fun q => by rw [gI_pI, if_neg (by omega)]; exact t.2.2.2.2.2 q⟩
        · rw [gI_pI, if_pos ⟨rfl, rfl⟩]
          unfold snV
          rw [y]; rfl
    · exact bX9_takeSigned_21 (C.iv i1) ⟨fun y => absurd rfl y, fun _ => kn g hw ((ts_tk C1).tr C) g2 g3⟩
  refine eX9_takeSigned hi ?_
  rw [show (45 : Int32) = iI 45 from by decide, hs]
  refine ⟨fun w => ?_, fun w => ?_⟩
  · have : snP z n f = f := by unfold snP; rw [bL_0] at w; rw [w]; rfl
    refine go h Ce.rf ?_
    rw [this]; exact ht
  · have : snP z n f = adT z n f := by unfold snP; rw [bL_1] at w; rw [w]; rfl
    refine mX9_adv hi hz hn4 hf ht (fun g C t => go g (ta_ts C) ?_)
    rw [this]; exact t
def bgS (o k : Nat) : Bool := o == 1 && (k == 2 || (k == 3 || (k == 5 || (k == 6 || (k == 7 || (k == 8 || (k == 9)))))))
theorem mX9_begin {z : Nat → Int} {n l : Nat} (hi : Iv h) (hz : ZC z h) (hl : gI h 1 1 = iI l) (hl4 : l ≤ 400) (hn : n ≤ l) (k : ∀ g, Ce bgS h g → TC z n (rn cB z n 0) g → gI g 1 2 = 0 → gI g 1 3 = -1 → Q (.inl none) g) : WM G jX9_begin [.ref 1, .int (iI n)] h Q := by
  refine eX9_begin hi ?_
  have hm : fJ9_max_7cf53 0 (fJ9_min_7cf53 (iI n) (gI h 1 1)) = iI n := by
    rw [hl, min_n (by omega) (by omega), Nat.min_eq_left hn]
    unfold fJ9_max_7cf53
    split
    · rfl
    · rename_i w
      rw [n_0, lt_n (by omega) (by omega)] at w
      rw [n_0]
      congr 2
      omega
  rw [hm]
  generalize hg : pI (pI (pI (pI h 1 5 (iI n)) 1 6 0) 1 2 0) 1 3 (-1) = g
  have C : Ce bgS h g := by rw [← hg]; exact (((Ce.rf.pI rfl _).pI rfl _).pI rfl _).pI rfl _
  have q5 : gI g 1 5 = iI n := by rw [← hg, gI_pI, if_neg (by omega), gI_pI, if_neg (by omega), gI_pI, if_neg (by omega), gI_pI, if_pos ⟨rfl, rfl⟩]
  have q6 : gI g 1 6 = iI ((0 : Nat) : Int) := by rw [← hg, gI_pI, if_neg (by omega), gI_pI, if_neg (by omega), gI_pI, if_pos ⟨rfl, rfl⟩]; exact n_0
  have q2 : gI g 1 2 = 0 := by rw [← hg, gI_pI, if_neg (by omega), gI_pI, if_pos ⟨rfl, rfl⟩]
  have q3 : gI g 1 3 = -1 := by rw [← hg, gI_pI, if_pos ⟨rfl, rfl⟩]
  clear hg
  have gi := C.iv hi
  refine mX9_advance gi (fun i hi => by rw [C.2.2 2 i rfl]; exact hz i hi) (by omega) (Nat.zero_le _) q5 q6 (fun g2 C2 t => bX9_begin_35 (C2.iv gi) (k g2 (C.tr (C2.wk (fun o k ho => by unfold bgS at ho; unfold taS; simp at ho ⊢; intro e; have := ho e; omega))) t ?_ ?_))
  · rw [C2.2.2 1 2 rfl]; exact q2
  · rw [C2.2.2 1 3 rfl]; exact q3
end TOK2
