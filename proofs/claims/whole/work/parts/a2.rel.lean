section REL
variable {h h' : mH}
/-- from h to h' one exception more at most, and of the cells those of S alone -/
def Fm (S : Nat → Nat → Prop) (h h' : mH) : Prop := (h'.1 = h.1 ∨ ∃ n, n ≤ 6 ∧ h'.1 = h.1 ++ [(200, n)]) ∧ (∀ o k, o < 117 → gR h' o k = gR h o k) ∧ ∀ o k, o < 117 → ¬ S o k → gI h' o k = gI h o k
theorem Fm.rf {S : Nat → Nat → Prop} : Fm S h h := ⟨.inl rfl, fun _ _ _ => rfl, fun _ _ _ _ => rfl⟩
theorem Fm.wk {S T : Nat → Nat → Prop} (hs : Fm S h h') (hT : ∀ o k, S o k → T o k) : Fm T h h' := ⟨hs.1, hs.2.1, fun o k h1 ho => hs.2.2 o k h1 (fun z => ho (hT o k z))⟩
theorem Fm.st {S : Nat → Nat → Prop} {a b c : mH} (hs : Fm S a b) (h1 : c.1 = b.1) (h2 : ∀ o k, o < 117 → gR c o k = gR b o k) (h3 : ∀ o k, o < 117 → ¬ S o k → gI c o k = gI b o k) : Fm S a c := by
  refine ⟨?_, fun o k ho => (h2 o k ho).trans (hs.2.1 o k ho), fun o k ho hS => (h3 o k ho hS).trans (hs.2.2 o k ho hS)⟩
  rw [h1]
  exact hs.1
theorem Fm.trC {S : Nat → Nat → Prop} {T : Nat → Nat → Bool} {a b c : mH} (hs : Fm S a b) (hc : Ce T b c) (hT : ∀ o k, T o k = true → S o k) : Fm S a c := hs.st hc.1 (fun o k _ => by show c.2.2.2 o k = b.2.2.2 o k; rw [hc.2.1]) (fun o k _ ho => hc.2.2 o k (Bool.eq_false_iff.mpr (fun z => ho (hT o k z))))
theorem Fm.trJ {S : Nat → Nat → Prop} {T : Nat → Nat → Bool} {a b c : mH} (hs : Fm S a b) (hc : Cj T b c) (hT : ∀ o k, T o k = true → S o k) : Fm S a c := hs.st hc.1 (fun o k _ => by show c.2.2.2 o k = b.2.2.2 o k; rw [hc.2.1]) (fun o k _ ho => hc.2.2.2 o k (Bool.eq_false_iff.mpr (fun z => ho (hT o k z))))
theorem Fm.trS {S : Nat → Nat → Prop} {T : Nat → Bool} {a b c : mH} (hs : Fm S a b) (hc : Sm T b c) (hT : ∀ o k, T o = true → S o k) : Fm S a c := hs.st hc.1 (fun o k _ => by show c.2.2.2 o k = b.2.2.2 o k; rw [hc.2.1]) (fun o k _ ho => hc.gI (Bool.eq_false_iff.mpr (fun z => ho (hT o k z))) k)
theorem Fm.pI {S : Nat → Nat → Prop} {a b : mH} (hs : Fm S a b) {o k : Nat} (ho : S o k) (v : Int32) : Fm S a (pI b o k v) := hs.st rfl (fun _ _ _ => rfl) (fun o' k' _ hn => by rw [gI_pI, if_neg (fun e => hn (by rw [e.1, e.2]; exact ho))])
theorem Fm.pA {S : Nat → Nat → Prop} {a b : mH} (hs : Fm S a b) {o : Nat} (ho : ∀ k, S o k) (f : Nat → Int32) : Fm S a (pA b o f) := hs.st rfl (fun _ _ _ => rfl) (fun o' k' _ hn => by rw [gI_pA, if_neg (fun e => hn (by rw [e]; exact ho k'))])
theorem Fm.pJ {S : Nat → Nat → Prop} {a b : mH} (hs : Fm S a b) (o k : Nat) (v : Int64) : Fm S a (pJ b o k v) := hs.st rfl (fun _ _ _ => rfl) (fun _ _ _ _ => rfl)
theorem Iv.len (hi : Iv h) : 117 ≤ h.1.length := by
  have := hi.sh (o := 116) (c := 102) (n := 1) rfl rfl
  rcases Nat.lt_or_ge 116 h.1.length with q | q
  · exact q
  · rw [List.getElem?_eq_none q] at this
    cases this
theorem gI_aN {c n o k : Nat} (ho : o < h.1.length) : gI (aN h c n) o k = gI h o k := by
  show (if o = h.1.length then (fun _ => 0) else h.2.1 o) k = h.2.1 o k
  rw [if_neg (by omega)]
theorem gR_aN {c n o k : Nat} (ho : o < h.1.length) : gR (aN h c n) o k = gR h o k := by
  show (if o = h.1.length then (fun _ => .null) else h.2.2.2 o) k = h.2.2.2 o k
  rw [if_neg (by omega)]
theorem Fm.aN {S : Nat → Nat → Prop} {n : Nat} (hi : Iv h) (hn : n ≤ 6) : Fm S h (aN h 200 n) := by
  have := hi.len
  exact ⟨.inr ⟨n, hn, rfl⟩, fun o k ho => gR_aN (by omega), fun o k ho _ => gI_aN (by omega)⟩
theorem Fm.iv {S : Nat → Nat → Prop} (hs : Fm S h h') (hi : Iv h) : Iv h' := by
  have hl := hi.len
  refine ⟨fun o c n hk hc => ?_, fun o c n k d hk hr => ?_⟩
  · have q := hi.sh hk hc
    have ho := kd_lt hk hc
    rcases hs.1 with e | ⟨m, _, e⟩
    · rw [e]; exact q
    · rw [e, List.getElem?_append_left (by omega)]; exact q
  · have q := hi.2 o c n k d hk hr
    rcases Nat.lt_or_ge o 117 with ho | ho
    · have e : h'.2.2.2 o k = h.2.2.2 o k := hs.2.1 o k ho
      rw [e]; exact q
    · exfalso
      unfold kd at hk
      rw [List.getD_eq_getElem?_getD, List.getElem?_eq_none (show kdL.length ≤ o from ho)] at hk
      cases hk
      unfold rOff at hr
      split at hr <;> first | contradiction | cases hr
theorem Fm.rm {S : Nat → Nat → Prop} (hs : Fm S h h') : h'.1.length ≤ h.1.length + 1 ∧ sl h' ≤ sl h + 6 := by
  rcases hs.1 with e | ⟨m, hm, e⟩
  · unfold sl
    rw [e]
    omega
  · unfold sl
    rw [e]
    simp
    omega
def P1 (h : mH) : Prop := FR h 3 ∧ CR h 3 ∧ gI h 83 1 = gI h 3 4 ∧ gI h 83 2 = gI h 3 5 ∧ (∀ k, k < 4 → gI h 84 k = gI h 4 k ∧ gI h 85 k = gI h 5 k ∧ gI h 86 k = gI h 6 k) ∧ (∀ k, k < 12 → gI h 87 k = gI h 7 k) ∧ ∀ i, i < (gI h 3 5).toInt.toNat → gI h 88 (3 * i) = gI h 8 i ∧ ∀ a, a < 2 → gI h 88 (3 * i + 1 + a) = gI h 9 (2 * i + a)
def StW (h : mH) (a f : Nat) : Prop := ∀ p, p < 4 → rg (gI h a (f + p)) 0 9 ∧ rg (gI h a (f + (4 + p))) 0 99 ∧ rg (gI h a (f + (8 + p))) 0 90
def Hk (h : mH) (c a1 a2 a3 : Nat) : Prop := ∃ np nq nb : Nat, gI h c 1 = iI np ∧ gI h c 3 = iI nq ∧ gI h c 5 = iI nb ∧ np ≤ 8 ∧ (∀ i, i < np → StW h a1 (12 * i)) ∧ PtR h a2 nq ∧ DyR h a3 nb
def P2 (h : mH) : Prop := Hk h 33 35 36 37 ∧ (gI h 83 30 = gI h 33 1 ∧ gI h 83 33 = gI h 33 3 ∧ gI h 83 36 = gI h 33 5) ∧ (∀ k, k < 96 → gI h 97 k = gI h 35 k) ∧ (∀ k, k < 18 → gI h 99 k = gI h 36 k) ∧ ∀ k, k < 10 → gI h 101 k = gI h 37 k
def P3 (h : mH) : Prop := ∀ k, k < 5 → gI h 90 k = gI h 82 k
def P4 (h : mH) : Prop := ∃ (l : Nat) (z : Nat → Int), l ≤ 400 ∧ gI h 1 1 = iI l ∧ gI h 83 9 = iI l ∧ ZC z h ∧ ZM z h
def P5 (h : mH) : Prop := gI h 83 11 = gI h 1 3
def P6 (h : mH) : Prop := (gI h 75 1 = 0 ∧ gI h 83 40 = -1) ∨ ∃ n : Nat, 1 ≤ n ∧ n ≤ 8 ∧ gI h 75 1 = iI n ∧ gI h 83 40 = iI n ∧ gI h 83 41 = gI h 75 2 ∧ ∀ i, i < n → gI h 103 i = gI h 76 i
def P7 (h : mH) : Prop := gI h 83 55 = gI h 0 6 ∧ (gI h 0 6 = 0 ∨ (StW h 39 0 ∧ Hk h 38 40 41 42 ∧ (gI h 111 0 = gI h 38 1 ∧ gI h 111 1 = gI h 38 3 ∧ gI h 111 2 = gI h 38 5) ∧ (∀ k, k < 12 → gI h 112 k = gI h 39 k) ∧ (∀ k, k < 96 → gI h 113 k = gI h 40 k) ∧ (∀ k, k < 18 → gI h 114 k = gI h 41 k) ∧ ∀ k, k < 10 → gI h 115 k = gI h 42 k))
def P8 (h : mH) : Prop := ∃ (sc : PF) (r r' : Nat), WF sc ∧ LN sc ∧ gR h 0 7 = .ref r ∧ gR h 0 8 = .ref r' ∧ ((r = 43 ∧ r' = 49) ∨ (r = 49 ∧ r' = 43)) ∧ SRw r sc h ∧ FK sc h ∧ (gI h 55 8 = gI h 0 16 → OuC sc.2.1 sc.1 (wlC h) (plP (wlC h) sc (stC h)) h)
def P9 (h : mH) : Prop := FdOk h 3 ∧ FdOk h 13 ∧ FdOk h 56
def P11 (h : mH) : Prop := ∀ n : Nat, n ≤ 10 → gI h 33 5 = iI n → gI h 80 2 = gI h 0 16 → BsOk h h n
def P12 (n : Nat) (h : mH) : Prop := ∃ (c : Nat) (a b : Int), gI h 0 16 = iI c ∧ c + n ≤ 600 ∧ gI h 55 8 = iI a ∧ -1 ≤ a ∧ a ≤ c ∧ gI h 80 2 = iI b ∧ -1 ≤ b ∧ b ≤ c
def P13 (n : Nat) (h : mH) : Prop := Iv h ∧ h.1.length + n ≤ NC ∧ sl h + 6 * n ≤ NS
/-- class and model stand alike, with n calls to come -/
def Re (n : Nat) (h : mH) : Prop := P13 n h ∧ P1 h ∧ P2 h ∧ P3 h ∧ P4 h ∧ P5 h ∧ P6 h ∧ P7 h ∧ P8 h ∧ P9 h ∧ P11 h ∧ P12 n h
theorem P13_c {S : Nat → Nat → Prop} {n : Nat} (hs : Fm S h h') (p : P13 (n + 1) h) : P13 n h' := by
  have := hs.rm
  obtain ⟨a, b, c⟩ := p
  exact ⟨hs.iv a, by omega, by omega⟩
theorem FR_c {r : Nat} (U : ∀ o k, r + 1 ≤ o ∧ o ≤ r + 4 → gI h' o k = gI h o k) (f : FR h r) : FR h' r := fun p hp => by
  have := f p hp
  unfold PnR at this ⊢
  rw [U (r + 1) _ (by omega), U (r + 2) _ (by omega), U (r + 3) _ (by omega), U (r + 4) _ (by omega), U (r + 4) _ (by omega), U (r + 4) _ (by omega)]
  exact this
theorem CR_c {r : Nat} (e : gI h' r 5 = gI h r 5) (U : ∀ o k, r + 5 ≤ o ∧ o ≤ r + 6 → gI h' o k = gI h o k) (f : CR h r) : CR h' r := by
  obtain ⟨a, b⟩ := f
  refine ⟨by rw [e]; exact a, fun i hi => ?_⟩
  rw [e] at hi
  exact ⟨by rw [U _ _ (by omega)]; exact (b i hi).1, fun a ha => by rw [U _ _ (by omega)]; exact (b i hi).2 a ha⟩
theorem P1_c (U : ∀ o k, (o = 3 ∧ (k = 4 ∨ k = 5)) ∨ (4 ≤ o ∧ o ≤ 9) ∨ (o = 83 ∧ (k = 1 ∨ k = 2)) ∨ (84 ≤ o ∧ o ≤ 88) → gI h' o k = gI h o k) (p : P1 h) : P1 h' := by
  obtain ⟨a, b, c, d, e, f, g⟩ := p
  refine ⟨FR_c (fun o k ho => U o k (by omega)) a, CR_c (U 3 5 (by omega)) (fun o k ho => U o k (by omega)) b, by rw [U 83 1 (by omega), U 3 4 (by omega)]; exact c, by rw [U 83 2 (by omega), U 3 5 (by omega)]; exact d, fun k hk => ?_, fun k hk => ?_, fun i hi => ?_⟩
  · rw [U 84 k (by omega), U 4 k (by omega), U 85 k (by omega), U 5 k (by omega), U 86 k (by omega), U 6 k (by omega)]
    exact e k hk
  · rw [U 87 k (by omega), U 7 k (by omega)]
    exact f k hk
  · rw [U 3 5 (by omega)] at hi
    obtain ⟨x, y⟩ := g i hi
    exact ⟨by rw [U 88 _ (by omega), U 8 _ (by omega)]; exact x, fun a ha => by rw [U 88 _ (by omega), U 9 _ (by omega)]; exact y a ha⟩
theorem StW_c {a f : Nat} (U : ∀ k, gI h' a k = gI h a k) (p : StW h a f) : StW h' a f := fun q hq => by
  rw [U, U, U]
  exact p q hq
theorem PtR_c {a n : Nat} (U : ∀ k, gI h' a k = gI h a k) (p : PtR h a n) : PtR h' a n := ⟨p.1, fun i hi => ⟨by rw [U]; exact (p.2 i hi).1, fun x hx => by rw [U]; exact (p.2 i hi).2 x hx⟩⟩
theorem DyR_c {a n : Nat} (U : ∀ k, gI h' a k = gI h a k) (p : DyR h a n) : DyR h' a n := ⟨p.1, fun i hi => by rw [U]; exact p.2 i hi⟩
theorem Hk_c {c a1 a2 a3 : Nat} (U : ∀ o k, (o = c ∧ (k = 1 ∨ k = 3 ∨ k = 5)) ∨ o = a1 ∨ o = a2 ∨ o = a3 → gI h' o k = gI h o k) (p : Hk h c a1 a2 a3) : Hk h' c a1 a2 a3 := by
  obtain ⟨np, nq, nb, e1, e2, e3, l8, s, t, d⟩ := p
  exact ⟨np, nq, nb, by rw [U c 1 (by omega)]; exact e1, by rw [U c 3 (by omega)]; exact e2, by rw [U c 5 (by omega)]; exact e3, l8, fun i hi => StW_c (fun k => U a1 k (by omega)) (s i hi), PtR_c (fun k => U a2 k (by omega)) t, DyR_c (fun k => U a3 k (by omega)) d⟩
theorem P2_c (U : ∀ o k, (o = 33 ∧ (k = 1 ∨ k = 3 ∨ k = 5)) ∨ (35 ≤ o ∧ o ≤ 37) ∨ (o = 83 ∧ (k = 30 ∨ k = 33 ∨ k = 36)) ∨ o = 97 ∨ o = 99 ∨ o = 101 → gI h' o k = gI h o k) (p : P2 h) : P2 h' := by
  obtain ⟨a, ⟨b1, b2, b3⟩, c, d, e⟩ := p
  refine ⟨Hk_c (fun o k ho => U o k (by omega)) a, ⟨?_, ?_, ?_⟩, fun k hk => ?_, fun k hk => ?_, fun k hk => ?_⟩
  · rw [U 83 30 (by omega), U 33 1 (by omega)]; exact b1
  · rw [U 83 33 (by omega), U 33 3 (by omega)]; exact b2
  · rw [U 83 36 (by omega), U 33 5 (by omega)]; exact b3
  · rw [U 97 k (by omega), U 35 k (by omega)]; exact c k hk
  · rw [U 99 k (by omega), U 36 k (by omega)]; exact d k hk
  · rw [U 101 k (by omega), U 37 k (by omega)]; exact e k hk
theorem P3_c (U : ∀ o k, o = 82 ∨ o = 90 → gI h' o k = gI h o k) (p : P3 h) : P3 h' := fun k hk => by rw [U 90 k (by omega), U 82 k (by omega)]; exact p k hk
theorem P4_c (U : ∀ o k, (o = 1 ∧ k = 1) ∨ o = 2 ∨ (o = 83 ∧ k = 9) ∨ o = 89 → gI h' o k = gI h o k) (p : P4 h) : P4 h' := by
  obtain ⟨l, z, a, b, c, d, e⟩ := p
  exact ⟨l, z, a, by rw [U 1 1 (by omega)]; exact b, by rw [U 83 9 (by omega)]; exact c, fun i hi => by rw [U 2 i (by omega)]; exact d i hi, fun i hi => by rw [U 89 i (by omega)]; exact e i hi⟩
theorem P5_c (U : ∀ o k, (o = 1 ∧ k = 3) ∨ (o = 83 ∧ k = 11) → gI h' o k = gI h o k) (p : P5 h) : P5 h' := by
  unfold P5
  rw [U 83 11 (by omega), U 1 3 (by omega)]
  exact p
theorem P6_c (U : ∀ o k, (o = 75 ∧ (k = 1 ∨ k = 2)) ∨ o = 76 ∨ (o = 83 ∧ (k = 40 ∨ k = 41)) ∨ o = 103 → gI h' o k = gI h o k) (p : P6 h) : P6 h' := by
  unfold P6
  rw [U 75 1 (by omega), U 83 40 (by omega), U 83 41 (by omega), U 75 2 (by omega)]
  rcases p with p | ⟨n, a, b, c, d, e, f⟩
  · exact .inl p
  · exact .inr ⟨n, a, b, c, d, e, fun i hi => by rw [U 103 i (by omega), U 76 i (by omega)]; exact f i hi⟩
theorem P7_c (U : ∀ o k, (o = 0 ∧ k = 6) ∨ (38 ≤ o ∧ o ≤ 42) ∨ (o = 83 ∧ k = 55) ∨ (111 ≤ o ∧ o ≤ 115) → gI h' o k = gI h o k) (p : P7 h) : P7 h' := by
  unfold P7
  rw [U 83 55 (by omega), U 0 6 (by omega)]
  obtain ⟨p0, p⟩ := p
  refine ⟨p0, ?_⟩
  rcases p with p | ⟨a, b, ⟨c1, c2, c3⟩, d1, d2, d3, d4⟩
  · exact .inl p
  · refine .inr ⟨StW_c (fun k => U 39 k (by omega)) a, Hk_c (fun o k ho => U o k (by omega)) b, ⟨?_, ?_, ?_⟩, fun k hk => ?_, fun k hk => ?_, fun k hk => ?_, fun k hk => ?_⟩
    · rw [U 111 0 (by omega), U 38 1 (by omega)]; exact c1
    · rw [U 111 1 (by omega), U 38 3 (by omega)]; exact c2
    · rw [U 111 2 (by omega), U 38 5 (by omega)]; exact c3
    · rw [U 112 k (by omega), U 39 k (by omega)]; exact d1 k hk
    · rw [U 113 k (by omega), U 40 k (by omega)]; exact d2 k hk
    · rw [U 114 k (by omega), U 41 k (by omega)]; exact d3 k hk
    · rw [U 115 k (by omega), U 42 k (by omega)]; exact d4 k hk
theorem wlC_c (U : ∀ o k, (o = 3 ∧ k = 5) ∨ (4 ≤ o ∧ o ≤ 9) → gI h' o k = gI h o k) : wlC h' = wlC h ∧ stC h' = stC h := by
  have r : ∀ o, 4 ≤ o → o ≤ 9 → ∀ k, gI h' o k = gI h o k := fun o h1 h2 k => U o k (by omega)
  constructor
  · unfold wlC
    simp only [r 4 (by omega) (by omega), r 5 (by omega) (by omega), r 6 (by omega) (by omega), r 8 (by omega) (by omega), r 9 (by omega) (by omega), U 3 5 (by omega)]
  · unfold stC
    simp only [r 7 (by omega) (by omega)]
theorem FdOk_r {r : Nat} (U : ∀ o k, r + 7 ≤ o ∧ o ≤ r + 9 → gI h' o k = gI h o k) (f : FdOk h r) : FdOk h' r := fun p hp => by
  obtain ⟨lo, sz, a, b, c1, c2, c3, c4, d⟩ := f p hp
  exact ⟨lo, sz, by rw [U _ _ (by omega)]; exact a, by rw [U _ _ (by omega)]; exact b, c1, c2, c3, c4, fun i hi => by rw [U _ _ (by omega)]; exact d i hi⟩
theorem OuC_c {R : Nat → Nat → Int} {sz : Nat} {W : WL} {x : Option PS} (U : ∀ o k, (o = 55 ∧ (2 ≤ k ∧ k ≤ 6)) ∨ (56 ≤ o ∧ o ≤ 66) → gI h' o k = gI h o k) (p : OuC R sz W x h) : OuC R sz W x h' := by
  cases x with
  | none =>
    obtain ⟨a, b⟩ := p
    exact ⟨FdOk_r (fun o k ho => U o k (by omega)) a, by rw [U 55 5 (by omega)]; exact b⟩
  | some s =>
    obtain ⟨i, x, a, b4, c, d, e⟩ := p
    exact ⟨i, WX_c (fun o k ho => U o k (by omega)) (FdOk_r (fun o k ho => U o k (by omega)) x.2.2.2.2) x, by rw [U 55 3 (by omega)]; exact a, by rw [U 55 4 (by omega)]; exact b4, by rw [U 55 5 (by omega)]; exact c, by rw [U 55 6 (by omega)]; exact d, MkC_c (fun k => U 66 k (by omega)) (U 55 2 (by omega)) e⟩
theorem SRw_u {r : Nat} {sc : PF} (hr : r = 43 ∨ r = 49) (U : ∀ o k, 43 ≤ o ∧ o ≤ 54 → gI h' o k = gI h o k) (hR : SRw r sc h) : SRw r sc h' :=
  ⟨by rw [U r 4 (by omega)]; exact hR.1, fun a i ha hi => by rw [U _ _ (by omega)]; exact hR.2 a i ha hi⟩
theorem P8_c (U : ∀ o k, (43 ≤ o ∧ o ≤ 54) ∨ o = 104 ∨ (o = 0 ∧ k = 16) ∨ (55 ≤ o ∧ o ≤ 66) ∨ (o = 3 ∧ k = 5) ∨ (4 ≤ o ∧ o ≤ 9) → gI h' o k = gI h o k) (V : ∀ k, gR h' 0 k = gR h 0 k) (p : P8 h) : P8 h' := by
  obtain ⟨sc, r, r', a, b, c, d, e, f, g, q⟩ := p
  obtain ⟨w1, w2⟩ := wlC_c (fun o k ho => U o k (by omega))
  refine ⟨sc, r, r', a, b, by rw [V]; exact c, by rw [V]; exact d, e, SRw_u (by omega) (fun o k ho => U o k (by omega)) f, FK_c (fun k => U 104 k (by omega)) g, fun z => ?_⟩
  rw [U 55 8 (by omega), U 0 16 (by omega)] at z
  rw [w1, w2]
  exact OuC_c (fun o k ho => U o k (by omega)) (q z)
theorem P9_c (U : ∀ o k, (10 ≤ o ∧ o ≤ 12) ∨ (20 ≤ o ∧ o ≤ 22) ∨ (63 ≤ o ∧ o ≤ 65) → gI h' o k = gI h o k) (p : P9 h) : P9 h' :=
  ⟨FdOk_r (fun o k ho => U o k (by omega)) p.1, FdOk_r (fun o k ho => U o k (by omega)) p.2.1, FdOk_r (fun o k ho => U o k (by omega)) p.2.2⟩
theorem dyV_r {a : Nat} (U : ∀ k, gI h' a k = gI h a k) : dyV h' a = dyV h a := by
  unfold dyV
  simp only [U]
theorem P11_c (U : ∀ o k, (o = 0 ∧ k = 16) ∨ (o = 33 ∧ k = 5) ∨ o = 37 ∨ o = 80 → gI h' o k = gI h o k) (p : P11 h) : P11 h' := fun n hn e1 e2 => by
  rw [U 33 5 (by omega)] at e1
  rw [U 80 2 (by omega), U 0 16 (by omega)] at e2
  obtain ⟨a, b⟩ := p n hn e1 e2
  unfold BsOk
  rw [dyV_r (fun k => U 37 k (by omega)), U 80 0 (by omega), U 80 1 (by omega)]
  exact ⟨a, b⟩
theorem P12_c {n : Nat} (U : ∀ o k, (o = 0 ∧ k = 16) ∨ (o = 55 ∧ k = 8) ∨ (o = 80 ∧ k = 2) → gI h' o k = gI h o k) (p : P12 (n + 1) h) : P12 n h' := by
  obtain ⟨c, a, b, e1, l, e2, b1, b2, e3, b3, b4⟩ := p
  exact ⟨c, a, b, by rw [U 0 16 (by omega)]; exact e1, by omega, by rw [U 55 8 (by omega)]; exact e2, b1, b2, by rw [U 80 2 (by omega)]; exact e3, b3, b4⟩
/-- the counter went on: what was kept for it is kept no more -/
theorem P12_s {n : Nat} (U : ∀ o k, (o = 55 ∧ k = 8) ∨ (o = 80 ∧ k = 2) → gI h' o k = gI h o k) (e : gI h' 0 16 = gI h 0 16 + 1) (p : P12 (n + 1) h) : P12 n h' ∧ gI h' 55 8 ≠ gI h' 0 16 ∧ gI h' 80 2 ≠ gI h' 0 16 := by
  obtain ⟨c, a, b, e1, l, e2, b1, b2, e3, b3, b4⟩ := p
  have e' : gI h' 0 16 = iI ((c + 1 : Nat) : Int) := by rw [e, e1, n_1, ad_n]
  refine ⟨⟨c + 1, a, b, e', by omega, by rw [U 55 8 (by omega)]; exact e2, b1, by omega, by rw [U 80 2 (by omega)]; exact e3, b3, by omega⟩, fun z => ?_, fun z => ?_⟩
  · rw [U 55 8 (by omega), e2, e', iI_eq ⟨by omega, by omega⟩ ⟨by omega, by omega⟩] at z
    omega
  · rw [U 80 2 (by omega), e3, e', iI_eq ⟨by omega, by omega⟩ ⟨by omega, by omega⟩] at z
    omega
/-- cells of class and model that are no more than help -/
def HP (o k : Nat) : Prop := (o = 0 ∧ k ≠ 6 ∧ k ≠ 16) ∨ (o = 1 ∧ k ≠ 1 ∧ k ≠ 3) ∨ (o = 3 ∧ k ≠ 4 ∧ k ≠ 5) ∨ (13 ≤ o ∧ o ≤ 19) ∨ (23 ≤ o ∧ o ≤ 32) ∨ (o = 33 ∧ k ≠ 1 ∧ k ≠ 3 ∧ k ≠ 5) ∨ o = 34 ∨ (67 ≤ o ∧ o ≤ 74) ∨ (o = 75 ∧ k ≠ 1 ∧ k ≠ 2) ∨ (77 ≤ o ∧ o ≤ 79) ∨ o = 81 ∨ (o = 83 ∧ k ≠ 1 ∧ k ≠ 2 ∧ k ≠ 9 ∧ k ≠ 11 ∧ k ≠ 30 ∧ k ≠ 33 ∧ k ≠ 36 ∧ k ≠ 40 ∧ k ≠ 41 ∧ k ≠ 55) ∨ (91 ≤ o ∧ o ≤ 96) ∨ o = 98 ∨ o = 100 ∨ o = 102 ∨ (105 ≤ o ∧ o ≤ 110) ∨ 116 ≤ o
/-- and those in which the class keeps what it has reckoned -/
def HC (o k : Nat) : Prop := HP o k ∨ (10 ≤ o ∧ o ≤ 12) ∨ (20 ≤ o ∧ o ≤ 22) ∨ (55 ≤ o ∧ o ≤ 66) ∨ o = 80
theorem Re_g {n : Nat} (hR : Re (n + 1) h) (hs : Fm HC h h') (p8 : P8 h') (p9 : P9 h') (p11 : P11 h') (p12 : P12 n h') : Re n h' := by
  obtain ⟨q13, q1, q2, q3, q4, q5, q6, q7, q8, q9, q11, q12⟩ := hR
  refine ⟨P13_c hs q13, P1_c (fun o k ho => hs.2.2 o k (by omega) ?_) q1, P2_c (fun o k ho => hs.2.2 o k (by omega) ?_) q2, P3_c (fun o k ho => hs.2.2 o k (by omega) ?_) q3, P4_c (fun o k ho => hs.2.2 o k (by omega) ?_) q4, P5_c (fun o k ho => hs.2.2 o k (by omega) ?_) q5, P6_c (fun o k ho => hs.2.2 o k (by omega) ?_) q6, P7_c (fun o k ho => hs.2.2 o k (by omega) ?_) q7, p8, p9, p11, p12⟩
  all_goals
    unfold HC HP
    omega
theorem Re_q {n : Nat} (hR : Re (n + 1) h) (hs : Fm HP h h') : Re n h' := by
  obtain ⟨q13, q1, q2, q3, q4, q5, q6, q7, q8, q9, q11, q12⟩ := id hR
  refine Re_g hR (hs.wk (fun o k z => .inl z)) (P8_c (fun o k ho => hs.2.2 o k (by omega) ?_) (fun k => hs.2.1 0 k (by omega)) q8) (P9_c (fun o k ho => hs.2.2 o k (by omega) ?_) q9) (P11_c (fun o k ho => hs.2.2 o k (by omega) ?_) q11) (P12_c (fun o k ho => hs.2.2 o k (by omega) ?_) q12)
  all_goals
    unfold HP
    omega
/-- but for the rows of faded sizes -/
theorem Re_f {n : Nat} (hR : Re (n + 1) h) (hs : Fm (fun o k => HP o k ∨ (10 ≤ o ∧ o ≤ 12) ∨ (20 ≤ o ∧ o ≤ 22)) h h') (f3 : FdOk h' 3) (f13 : FdOk h' 13) : Re n h' := by
  obtain ⟨q13, q1, q2, q3, q4, q5, q6, q7, q8, q9, q11, q12⟩ := id hR
  refine Re_g hR (hs.wk (fun o k z => z.elim .inl (fun z => .inr (by omega)))) (P8_c (fun o k ho => hs.2.2 o k (by omega) ?_) (fun k => hs.2.1 0 k (by omega)) q8) ⟨f3, f13, FdOk_r (fun o k ho => hs.2.2 o k (by omega) ?_) q9.2.2⟩ (P11_c (fun o k ho => hs.2.2 o k (by omega) ?_) q11) (P12_c (fun o k ho => hs.2.2 o k (by omega) ?_) q12)
  all_goals
    unfold HP
    omega
end REL
