section SCC
variable {G : GX} {h : mH} {Q : mO → mH → Prop} {z : Nat → Int} {n : Nat}
theorem rAc2_r {v : Nat} {s : PF} {f : Nat} {r : PF × Nat} (hv : v ≤ 6) (hf : f ≤ n) (h : rAc2 z n v s f = .inr r) : r.1.1 = s.1 ∧ (∀ o, r.1.2.1 0 o = s.2.1 0 o) ∧ r.1.2.2 = (if 5 ≤ v then (s.1 - 1) :: s.2.2 else s.2.2) ∧ f + (if 5 ≤ v then 2 else 0) ≤ r.2 ∧ r.2 ≤ n := by
  unfold rAc2 at h
  split at h
  · obtain ⟨v1, e, _, _, l1, l2⟩ := rNm_r hf h
    rw [e, if_neg (by omega), if_neg (by omega)]
    exact ⟨rfl, fun o => by simp only; rw [upR_0 (by omega)], rfl, by omega, l2⟩
  · split at h
    · obtain ⟨v1, w1, e, _, _, _, _, l1, l2⟩ := rChg_r hf h
      rw [e, if_neg (by omega), if_neg (by omega)]
      exact ⟨rfl, fun o => by simp only; rw [upR_0 (by omega), upR_0 (by omega)], rfl, by omega, l2⟩
    · split at h
      · obtain ⟨v1, w1, e, _, _, _, _, l1, l2⟩ := rChg_r hf h
        rw [e, if_neg (by omega), if_neg (by omega)]
        exact ⟨rfl, fun o => by simp only; rw [upR_0 (by omega), upR_0 (by omega)], rfl, by omega, l2⟩
      · split at h
        · cases h
          rw [if_neg (by omega), if_neg (by omega)]
          exact ⟨rfl, fun o => rfl, rfl, by simp only; omega, hf⟩
        · rw [if_pos (by omega), if_pos (by omega)]
          split at h
          · obtain ⟨q, hq, h⟩ := bnd_r h
            obtain ⟨v1, e, _, _, l1, l2⟩ := rNm_r hf hq
            obtain ⟨e2, l3, l4, _⟩ := rOpn_r h
            rw [e2, e]
            exact ⟨rfl, fun o => by simp only; rw [upR_0 (by omega)], rfl, by omega, l4⟩
          · obtain ⟨q, hq, h⟩ := bnd_r h
            obtain ⟨v1, w1, e, _, _, _, _, l1, l2⟩ := rTst_r hf hq
            obtain ⟨e2, l3, l4, _⟩ := rOpn_r h
            rw [e2, e]
            exact ⟨rfl, fun o => by simp only; rw [upR_0 (by omega), upR_0 (by omega)], rfl, by omega, l4⟩
theorem rAct_r {s : PF} {f : Nat} {r : PF × Nat} (hI : SI s f) (h : rAct z n s f = .inr r) : SI r.1 r.2 ∧ f < r.2 ∧ r.2 ≤ n := by
  unfold rAct at h
  split at h
  · cases h
  · rename_i v hv
    obtain ⟨v6, fn, fl, an⟩ := vbT_b hv
    split at h
    · cases h
    · rename_i c
      obtain ⟨i1, i2, i3⟩ := hI
      obtain ⟨e1, e2, e3, l1, l2⟩ := rAc2_r v6 an h
      have hrp : rpO (adS s v).2.1 s.2.2 = rpO s.2.1 s.2.2 := rpO_cg _ (fun o ho => adS_0 (i3 o ho))
      have es : (adS s v).1 = s.1 + 1 := rfl
      refine ⟨⟨?_, ?_, ?_⟩, by split at fl <;> omega, l2⟩
      · rw [e1, e3, rpO_cg (R := (adS s v).2.1) _ (fun o _ => e2 o), es, Nat.add_sub_cancel]
        by_cases c5 : 5 ≤ v
        · rw [if_pos c5] at l1 ⊢
          unfold rpO
          rw [show (adS s v).2.2 = s.2.2 from rfl, hrp, adS_n]
          by_cases v5 : v = 5
          · rw [if_pos v5] at fl
            rw [if_pos (by omega)]
            omega
          · rw [if_neg v5] at fl
            rw [if_neg (by omega)]
            omega
        · rw [if_neg c5] at l1 ⊢
          rw [show (adS s v).2.2 = s.2.2 from rfl, hrp]
          rw [if_neg (by omega)] at fl
          omega
      · rw [e3]
        split
        · have : ¬ 5 ≤ s.2.2.length := fun x => c ⟨by assumption, x⟩
          show s.2.2.length + 1 ≤ 5
          omega
        · exact i2
      · rw [e1, e3, es]
        intro o ho
        split at ho
        · rcases List.mem_cons.mp ho with rfl | ho
          · omega
          · have := i3 o ho; omega
        · have := i3 o ho; omega
theorem rClo_r {s : PF} {o f : Nat} {O : List Nat} {r : PF × Nat} (hO : s.2.2 = o :: O) (hI : SI s f) (hf : f < n) (h : rClo z n s o O f = .inr r) : SI r.1 r.2 ∧ f < r.2 ∧ r.2 ≤ n := by
  obtain ⟨i1, i2, i3⟩ := hI
  rw [hO] at i1 i2 i3
  have os : o < s.1 := i3 o List.mem_cons_self
  have Os : ∀ x, x ∈ O → x < s.1 := fun x hx => i3 x (List.mem_cons_of_mem _ hx)
  have l1 := adT_lt (z := z) hf
  have i2' : O.length + 1 ≤ 5 := i2
  unfold rpO at i1
  unfold rClo at h
  split at h
  · rename_i c
    rw [if_pos c] at i1
    cases h
    refine ⟨⟨?_, ?_, ?_⟩, l1.1, l1.2⟩
    · have : rpO (upR (upR (upR (adS s 7).2.1 3 s.1 (o + 1 : Nat)) 1 s.1 (o : Nat)) 3 o (s.1 + 1 : Nat)) O = rpO s.2.1 O := rpO_cg _ (fun x hx => by rw [upR_0 (by omega), upR_0 (by omega), upR_0 (by omega), adS_0 (Os x hx)])
      simp only
      rw [this]
      omega
    · simp only; omega
    · intro x hx
      have := Os x hx
      simp only
      omega
  · rename_i c
    rw [if_neg c] at i1
    split at h
    · rename_i c2
      have l2 := wdS_ad c2.2
      obtain ⟨e2, l3, l4, _⟩ := rOpn_r h
      have lens : "else".length = 4 := by decide
      rw [lens] at l2
      rw [e2]
      refine ⟨⟨?_, ?_, ?_⟩, by omega, l4⟩
      · simp only
        unfold rpO
        have : rpO (upR (adS s 8).2.1 3 o (s.1 + 1 : Nat)) O = rpO s.2.1 O := rpO_cg _ (fun x hx => by rw [upR_0 (by omega), adS_0 (Os x hx)])
        rw [this, Nat.add_sub_cancel, upR_0 (by omega), adS_n, if_neg (by omega)]
        omega
      · show O.length + 1 ≤ 5
        exact i2
      · intro x hx
        simp only
        rcases List.mem_cons.mp hx with rfl | hx
        · omega
        · have := Os x hx; omega
    · cases h
      refine ⟨⟨?_, ?_, ?_⟩, l1.1, l1.2⟩
      · simp only
        have : rpO (upR s.2.1 3 o (s.1 : Nat)) O = rpO s.2.1 O := rpO_cg _ (fun x hx => upR_0 (by omega))
        rw [this]
        omega
      · simp only; omega
      · exact Os
theorem rPie_r {s : PF} {f : Nat} {r : PF × Nat} (hI : SI s f) (hf : f < n) (h : rPie z n s f = .inr r) : SI r.1 r.2 ∧ f < r.2 ∧ r.2 ≤ n := by
  unfold rPie at h
  split at h
  · exact rAct_r hI h
  · rename_i o O hO
    split at h
    · exact rClo_r hO hI hf h
    · exact rAct_r hI h
/-- things of a score -/
def rwS (r : Nat) (o _k : Nat) : Bool := decide (r ≤ o ∧ o ≤ r + 5)
def scS (r : Nat) (o k : Nat) : Bool := tsS o k || rwS r o k
def sdS (r : Nat) (o k : Nat) : Bool := tkS o k || rwS r o k
theorem rw_sc {r : Nat} {a b : mH} (h : Ce (rwS r) a b) : Ce (scS r) a b := h.wk (fun o k ho => by unfold scS at ho; rw [Bool.or_eq_false_iff] at ho; exact ho.2)
theorem ts_sc {r : Nat} {a b : mH} (h : Ce tsS a b) : Ce (scS r) a b := h.wk (fun o k ho => by unfold scS at ho; rw [Bool.or_eq_false_iff] at ho; exact ho.1)
theorem tk_sd {r : Nat} {a b : mH} (h : Ce tkS a b) : Ce (sdS r) a b := h.wk (fun o k ho => by unfold sdS at ho; rw [Bool.or_eq_false_iff] at ho; exact ho.1)
theorem sc_sd {r : Nat} {a b : mH} (h : Ce (scS r) a b) : Ce (sdS r) a b := h.wk (fun o k ho => by
  unfold sdS at ho
  rw [Bool.or_eq_false_iff] at ho
  unfold scS
  rw [Bool.or_eq_false_iff]
  refine ⟨?_, ho.2⟩
  have := ho.1
  unfold tkS at this
  unfold tsS
  simp at this ⊢
  intro e
  have := this e
  omega)
theorem rw_2 {r : Nat} (hr : 2 < r) (k : Nat) : rwS r 2 k = false ∧ rwS r 1 k = false := by
  unfold rwS
  constructor <;> exact decide_eq_false (by omega)
theorem sc_2 {r : Nat} (hr : 2 < r) (k : Nat) : scS r 2 k = false := by unfold scS; rw [(rw_2 hr k).1]; rfl
theorem TC_c {f : Nat} {g g' : mH} {S : Nat → Nat → Bool} (hC : Ce S g g') (hS : ∀ k, S 1 k = false) (ht : TC z n f g) : TC z n f g' := by
  have r : ∀ j, gI g' 1 j = gI g 1 j := fun j => hC.2.2 1 j (hS j)
  unfold TC at ht ⊢
  rw [r, r, r, r, r]
  exact ht
def opn (r : Nat) (g : mH) : List Nat → Prop
  | [] => True
  | o :: O => gI g (r + 5) O.length = iI (o : Nat) ∧ opn r g O
theorem opn_cg {r : Nat} {g g' : mH} : ∀ (O : List Nat), (∀ k, k < O.length → gI g' (r + 5) k = gI g (r + 5) k) → opn r g O → opn r g' O
  | [], _, _ => trivial
  | o :: O, hk, h => ⟨by rw [hk _ (Nat.lt_succ_self _)]; exact h.1, opn_cg O (fun k hk' => hk k (Nat.lt_succ_of_lt hk')) h.2⟩
/-- the score r holds what was read -/
def FS (r : Nat) (s : PF) (g : mH) : Prop := gI g r 4 = iI (s.1 : Nat) ∧ gI g r 6 = iI (s.2.2.length : Nat) ∧ (∀ a i, a < 4 → i < s.1 → gI g (r + 1 + a) i = iI (s.2.1 a i)) ∧ opn r g s.2.2
theorem FS_c {r : Nat} {s : PF} {g g' : mH} {S : Nat → Nat → Bool} (hC : Ce S g g') (hS : ∀ o k, r ≤ o → o ≤ r + 5 → S o k = false) (h : FS r s g) : FS r s g' := by
  obtain ⟨a, b, c, d⟩ := h
  have q : ∀ o k, r ≤ o → o ≤ r + 5 → gI g' o k = gI g o k := fun o k h1 h2 => hC.2.2 o k (hS o k h1 h2)
  exact ⟨by rw [q r 4 (by omega) (by omega)]; exact a, by rw [q r 6 (by omega) (by omega)]; exact b, fun x i hx hi => by rw [q _ _ (by omega) (by omega)]; exact c x i hx hi, opn_cg _ (fun k _ => q _ _ (by omega) (by omega)) d⟩
theorem ts_r {r : Nat} (hr : 2 < r) : ∀ o k, r ≤ o → o ≤ r + 5 → tsS o k = false := fun o k h1 h2 => by unfold tsS; simp; omega
theorem rowU {r a0 i0 o' : Nat} {v : Int} {g : mH} {R : Nat → Nat → Int} {P : Nat → Nat → Prop} (ho : o' = r + 1 + a0) (hR : ∀ a i, P a i → gI g (r + 1 + a) i = iI (R a i)) : ∀ a i, (P a i ∨ (a = a0 ∧ i = i0)) → gI (pI g o' i0 (iI v)) (r + 1 + a) i = iI (upR R a0 i0 v a i) := fun a i hP => by
  subst ho
  unfold upR
  rw [gI_pI]
  by_cases c : a = a0 ∧ i = i0
  · rw [if_pos c, if_pos ⟨by omega, c.2⟩]
  · rw [if_neg c, if_neg (fun e => c ⟨by omega, e.2⟩)]
    exact hR a i (hP.resolve_right c)
theorem mX7_addStep {r : Nat} {s : PF} {v : Int} (hi : Iv h) (kr : kd r = (7, 7)) (hF : FS r s h) (hs : s.1 < 100) (k : ∀ g, Ce (rwS r) h g → FS r (adS s v) g → Q (.inl (some (.int 1))) g) : WM G jX7_addStep [.ref r, .int (iI v)] h Q := by
  obtain ⟨f1, f2, f3, f4⟩ := hF
  have e1 : ∀ g k v, gI (pI g (r + 1) k v) r 4 = gI g r 4 := fun g k v => by rw [gI_pI, if_neg (by omega)]
  have e2 : ∀ g k v, gI (pI g (r + 2) k v) r 4 = gI g r 4 := fun g k v => by rw [gI_pI, if_neg (by omega)]
  have e3 : ∀ g k v, gI (pI g (r + 3) k v) r 4 = gI g r 4 := fun g k v => by rw [gI_pI, if_neg (by omega)]
  have e4 : ∀ g k v, gI (pI g (r + 4) k v) r 4 = gI g r 4 := fun g k v => by rw [gI_pI, if_neg (by omega)]
  have w : ∀ j, j ≤ 5 → ∀ k, rwS r (r + j) k = true := fun j hj k => by unfold rwS; exact decide_eq_true ⟨by omega, by omega⟩
  refine eX7_addStep hi kr ?_
  simp only [e1, e2, e3, e4]
  rw [f1, ix_n (by omega), show (100 : Int32) = iI ((100 : Nat) : Int) from n_100, lt_n (by omega) (by omega), show (1 : Int32) = iI ((1 : Nat) : Int) from n_1, ad_n, ← n_1]
  refine ⟨fun _ => ⟨in_n hs (by omega), in_n hs (by omega), in_n hs (by omega), in_n hs (by omega), ?_⟩, fun c => absurd hs c⟩
  rw [show (0 : Int32) = iI 0 from by decide]
  refine k _ (((((Ce.rf.pI (w 1 (by omega) _) _).pI (w 2 (by omega) _) _).pI (w 3 (by omega) _) _).pI (w 4 (by omega) _) _).pI (w 0 (by omega) _) _) ⟨?_, ?_, fun a i ha hi' => ?_, ?_⟩
  · rw [gI_pI, if_pos ⟨rfl, rfl⟩]; rfl
  · rw [gI_pI, if_neg (by omega), gI_pI, if_neg (by omega), gI_pI, if_neg (by omega), gI_pI, if_neg (by omega), gI_pI, if_neg (by omega)]
    exact f2
  · rw [gI_pI, if_neg (by omega)]
    have q := rowU (r := r) (a0 := 3) (i0 := s.1) (v := 0) (o' := r + 4) rfl (rowU (r := r) (a0 := 2) (i0 := s.1) (v := 0) (o' := r + 3) rfl (rowU (r := r) (a0 := 1) (i0 := s.1) (v := 0) (o' := r + 2) rfl (rowU (r := r) (a0 := 0) (i0 := s.1) (v := v) (o' := r + 1) rfl (P := fun a i => a < 4 ∧ i < s.1) (fun a i hP => f3 a i hP.1 hP.2))))
    refine q a i ?_
    have hi2 : i < s.1 + 1 := hi'
    by_cases c : i = s.1
    · rcases (show a = 0 ∨ a = 1 ∨ a = 2 ∨ a = 3 from by omega) with e | e | e | e
      · exact .inl (.inl (.inl (.inr ⟨e, c⟩)))
      · exact .inl (.inl (.inr ⟨e, c⟩))
      · exact .inl (.inr ⟨e, c⟩)
      · exact .inr ⟨e, c⟩
    · exact .inl (.inl (.inl (.inl ⟨ha, by omega⟩)))
  · refine opn_cg _ (fun k _ => ?_) f4
    rw [gI_pI, if_neg (by omega), gI_pI, if_neg (by omega), gI_pI, if_neg (by omega), gI_pI, if_neg (by omega), gI_pI, if_neg (by omega)]
/-- a reader of the class that fills the score r -/
def rdS {α : Type} (r : Nat) (h : mH) (Q : mO → mH → Prop) (x : (Nat × Nat) ⊕ α) (ok : α → mH → Prop) : Prop := (∀ g a, x = .inr a → Ce (scS r) h g → ok a g → Q (.inl (some (.int 1))) g) ∧ (∀ g w p, x = .inl (w, p) → Ce (sdS r) h g → gI g 1 2 = iI (w : Nat) → gI g 1 3 = iI (p : Nat) → Q (.inl (some (.int 0))) g)
theorem mX7_openBlock {r f : Nat} {s : PF} (hi : Iv h) (hr : 2 < r) (kr : kd r = (7, 7)) (hz : ZC z h) (hn4 : n ≤ 400) (hf : f ≤ n) (ht : TC z n f h) (hF : FS r s h) (h5 : s.2.2.length < 5) (hs1 : 1 ≤ s.1) (k : rdS r h Q (rOpn z n s f) (fun a g => TC z n a.2 g ∧ FS r a.1 g)) : WM G jX7_openBlock [.ref r, .ref 1] h Q := by
  refine eX7_openBlock hi kr ?_
  rw [show (40 : Int32) = iI 40 from by decide]
  refine mX9_takeSign hi hz hn4 hf ht ⟨by decide, by decide⟩ (fun g hs C t => ?_) (fun g hs C g2 g3 => ?_)
  · obtain ⟨f1, f2, f3, f4⟩ := FS_c C (ts_r hr) hF
    refine bX7_openBlock_6 (C.iv hi) kr ⟨fun _ => ?_, fun c => absurd c (by decide)⟩
    rw [f2, f1, ix_n (by omega), n_5, le_n (by omega) (by omega), show (1 : Int32) = iI ((1 : Nat) : Int) from n_1, su_n hs1, gI_pI, if_neg (by omega), f2, ad_n, ← n_1]
    refine ⟨fun c => by omega, fun _ => ⟨in_n h5 (by omega), ?_⟩⟩
    refine k.1 _ ((s.1, s.2.1, (s.1 - 1) :: s.2.2), adT z n f) (by unfold rOpn; rw [if_pos hs]) (((ts_sc C).pI ?_ _).pI ?_ _) ⟨?_, ?_, ?_, fun a i ha hi' => ?_, ?_, ?_⟩
    · unfold scS rwS; rw [decide_eq_true ⟨by omega, by omega⟩, Bool.or_true]
    · unfold scS rwS; rw [decide_eq_true ⟨by omega, by omega⟩, Bool.or_true]
    · exact TC_p (by omega) (TC_p (by omega) t)
    · rw [gI_pI, if_neg (by omega), gI_pI, if_neg (by omega)]; exact f1
    · rw [gI_pI, if_pos ⟨rfl, rfl⟩]; rfl
    · rw [gI_pI, if_neg (by omega), gI_pI, if_neg (by omega)]; exact f3 a i ha hi'
    · rw [gI_pI, if_neg (by omega), gI_pI, if_pos ⟨rfl, rfl⟩]
    · refine opn_cg _ (fun k hk => ?_) f4
      rw [gI_pI, if_neg (by omega), gI_pI, if_neg (by omega)]
  · exact bX7_openBlock_6 (C.iv hi) kr ⟨fun c => absurd rfl c, fun _ => k.2 g 1 f (by unfold rOpn; rw [if_neg (by rw [hs]; decide)]) (tk_sd C) (by rw [g2]; exact n_1) g3⟩
theorem mX7_readNumber {r f : Nat} {s : PF} {lo hi' : Int} (hi : Iv h) (hr : 2 < r) (kr : kd r = (7, 7)) (hz : ZC z h) (hn4 : n ≤ 400) (hf : f ≤ n) (ht : TC z n f h) (hF : FS r s h) (hs1 : 1 ≤ s.1) (hs : s.1 ≤ 100) (hlo : 0 ≤ lo) (hlh : lo ≤ 999) (hhi : 0 ≤ hi' ∧ hi' ≤ 999) (k : rdS r h Q (rNm z n s f lo hi') (fun a g => TC z n a.2 g ∧ FS r a.1 g)) : WM G jX7_readNumber [.ref r, .ref 1, .int (iI lo), .int (iI hi')] h Q := by
  refine eX7_readNumber hi kr (mX9_takeNumber hi hz hn4 hf ht hlo hlh hhi (fun g hw C t g4 => ?_) (fun g hw C g2 g3 => ?_))
  · obtain ⟨f1, f2, f3, f4⟩ := FS_c C (ts_r hr) hF
    refine bX7_readNumber_6 (C.iv hi) kr ⟨fun _ => ?_, fun c => absurd c (by decide)⟩
    rw [f1, g4, show (1 : Int32) = iI ((1 : Nat) : Int) from n_1, su_n hs1, ix_n (by omega), ← n_1]
    refine ⟨in_n (by omega) (by omega), k.1 _ _ (by unfold rNm rNu; rw [if_pos hw]; rfl) ((ts_sc C).pI ?_ _) ⟨TC_p (by omega) t, ?_, ?_, fun a i ha hi' => ?_, ?_⟩⟩
    · unfold scS rwS; rw [decide_eq_true ⟨by omega, by omega⟩, Bool.or_true]
    · rw [gI_pI, if_neg (by omega)]; exact f1
    · rw [gI_pI, if_neg (by omega)]; exact f2
    · exact rowU (r := r) (a0 := 1) (i0 := s.1 - 1) (v := nuV z n f) (o' := r + 2) rfl (P := fun a i => a < 4 ∧ i < s.1) (fun a i hP => f3 a i hP.1 hP.2) a i (.inl ⟨ha, hi'⟩)
    · refine opn_cg _ (fun k hk => ?_) f4
      rw [gI_pI, if_neg (by omega)]
  · exact bX7_readNumber_6 (C.iv hi) kr ⟨fun c => absurd rfl c, fun _ => k.2 g _ f (by unfold rNm rNu; rw [if_neg hw]; rfl) (tk_sd C) g2 g3⟩
theorem mX7_readChange {r f : Nat} {s : PF} {hi' : Int} (hi : Iv h) (hr : 2 < r) (kr : kd r = (7, 7)) (hz : ZC z h) (hn4 : n ≤ 400) (hf : f ≤ n) (ht : TC z n f h) (hF : FS r s h) (hs1 : 1 ≤ s.1) (hs : s.1 ≤ 100) (hhi : 0 ≤ hi' ∧ hi' ≤ 999) (k : rdS r h Q (rChg z n s f hi') (fun a g => TC z n a.2 g ∧ FS r a.1 g)) : WM G jX7_readChange [.ref r, .ref 1, .int (iI hi')] h Q := by
  refine eX7_readChange hi kr ?_
  rw [show (0 : Int32) = iI 0 from by decide, show (3 : Int32) = iI 3 from by decide]
  unfold rChg at k
  refine mX7_readNumber hi hr kr hz hn4 hf ht hF hs1 hs (by omega) (by omega) (by omega) ⟨fun g a ra C ok => ?_, fun g w p ra C g2 g3 => ?_⟩
  · rw [ra] at k
    obtain ⟨v1, ea, _, _, l1, l2⟩ := rNm_r hf ra
    have i1 := C.iv hi
    have ea1 : a.1.1 = s.1 := by rw [ea]
    refine bX7_readChange_7 i1 kr ⟨fun c => absurd c (by decide), fun _ => mX9_takeSigned i1 (ZC_c C (sc_2 hr) hz) hn4 l2 ok.1 hhi (fun g2 hw C2 t g24 => ?_) (fun g2 hw C2 g22 g23 => ?_)⟩
    · obtain ⟨f1, f2, f3, f4⟩ := FS_c C2 (ts_r hr) ok.2
      refine bX7_readChange_15 (C2.iv i1) kr ⟨fun _ => ?_, fun c => absurd c (by decide)⟩
      rw [f1, g24, show (1 : Int32) = iI ((1 : Nat) : Int) from n_1, su_n (by omega), ix_n (by omega), ← n_1]
      refine ⟨in_n (by omega) (by omega), k.1 _ _ (by unfold rSn; simp only [bnd]; rw [if_pos hw]) ((C.tr (ts_sc C2)).pI ?_ _) ⟨TC_p (by omega) t, ?_, ?_, fun x i hx hi' => ?_, ?_⟩⟩
      · unfold scS rwS; rw [decide_eq_true ⟨by omega, by omega⟩, Bool.or_true]
      · rw [gI_pI, if_neg (by omega)]; exact f1
      · rw [gI_pI, if_neg (by omega)]; exact f2
      · exact rowU (r := r) (a0 := 2) (i0 := a.1.1 - 1) (v := snV z n a.2) (o' := r + 3) rfl (P := fun x i => x < 4 ∧ i < a.1.1) (fun x i hP => f3 x i hP.1 hP.2) x i (.inl ⟨hx, hi'⟩)
      · refine opn_cg _ (fun k hk => ?_) f4
        rw [gI_pI, if_neg (by omega)]
    · exact bX7_readChange_15 (C2.iv i1) kr ⟨fun c => absurd rfl c, fun _ => k.2 g2 _ _ (by unfold rSn; simp only [bnd]; rw [if_neg hw]) ((sc_sd C).tr (tk_sd C2)) g22 g23⟩
  · rw [ra] at k
    exact bX7_readChange_7 (C.iv hi) kr ⟨fun _ => k.2 g w p rfl C g2 g3, fun c => absurd rfl c⟩
end SCC
