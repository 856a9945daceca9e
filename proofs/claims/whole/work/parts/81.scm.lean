section SCM
variable {G : GX} {h : mH} {Q : mO → mH → Prop} {z : Nat → Int} {n : Nat}
def lnV (v : Int) : Nat := if v ≤ 1 then 2 else if v ≤ 3 then 3 else if v = 4 then 1 else if v = 5 then 3 else if v = 6 then 5 else 2
/-- where a step begins in the code -/
def kpV (R : Nat → Nat → Int) : Nat → Nat
  | 0 => 0
  | i + 1 => kpV R i + lnV (R 0 i)
theorem lnV_b {v : Int} : 1 ≤ lnV v ∧ lnV v ≤ 5 := by
  unfold lnV
  repeat' split
  all_goals omega
theorem kpV_b {R : Nat → Nat → Int} : ∀ i, kpV R i ≤ 5 * i
  | 0 => Nat.le_refl _
  | i + 1 => by
    have := kpV_b (R := R) i
    have b := lnV_b (v := R 0 i)
    unfold kpV
    omega
theorem kpV_cg {R R' : Nat → Nat → Int} : ∀ i, (∀ x, x < i → R' 0 x = R 0 x) → kpV R' i = kpV R i
  | 0, _ => rfl
  | i + 1, h => by
    unfold kpV
    rw [kpV_cg i (fun x hx => h x (by omega)), h i (by omega)]
theorem kpV_m {R : Nat → Nat → Int} : ∀ (d i : Nat), kpV R i + lnV (R 0 i) ≤ kpV R (i + 1 + d)
  | 0, i => Nat.le_refl _
  | d + 1, i => by
    have := kpV_m (R := R) d i
    show _ ≤ kpV R (i + 1 + d) + lnV (R 0 (i + 1 + d))
    omega
theorem kpV_lt {R : Nat → Nat → Int} {i k : Nat} (h : i < k) : kpV R i + lnV (R 0 i) ≤ kpV R k := by
  have := kpV_m (R := R) (k - i - 1) i
  rw [show i + 1 + (k - i - 1) = k from by omega] at this
  exact this
/-- cells that are told at a block's end -/
def isJ (v : Int) (j : Nat) : Prop := (v = 5 ∧ j = 2) ∨ (v = 6 ∧ j = 4) ∨ (v = 8 ∧ j = 1)
def cdV (R : Nat → Nat → Int) (i j : Nat) : Int :=
  if j = 0 then (if R 0 i ≤ 6 then R 0 i + 6 else R 0 i + 93)
  else if R 0 i ≤ 1 then R 1 i
  else if R 0 i ≤ 3 then (if j = 1 then R 1 i else R 2 i)
  else if R 0 i = 5 ∧ j = 1 then R 1 i
  else if R 0 i = 6 ∧ j = 1 then R 2 i
  else if R 0 i = 6 ∧ j = 2 then (if R 1 i ≤ 2 then 15 + R 1 i else 18)
  else if R 0 i = 6 ∧ j = 3 then (if R 1 i ≤ 2 then 0 else R 1 i - 3)
  else (kpV R (R 3 i).toNat : Nat)
def FOc (s : PF) (g : mH) : Prop := gI g 83 47 = iI (kpV s.2.1 s.1 : Nat) ∧ ∀ i j, i < s.1 → j < lnV (s.2.1 0 i) → ¬ (i ∈ s.2.2 ∧ isJ (s.2.1 0 i) j) → gI g 105 (kpV s.2.1 i + j) = iI (cdV s.2.1 i j)
def koV (v : Int) : Int := if v = 5 then 11 else if v = 6 then 12 else 13
def joV (v : Int) : Nat := if v = 5 then 3 else if v = 6 then 4 else 1
def opm (R : Nat → Nat → Int) (g : mH) : List Nat → Prop
  | [] => True
  | o :: O => gI g 106 O.length = iI (koV (R 0 o)) ∧ gI g 107 O.length = iI ((kpV R o + joV (R 0 o) : Nat) : Int) ∧ opm R g O
def FOo (s : PF) (g : mH) : Prop := gI g 83 48 = iI (s.2.2.length : Nat) ∧ opm s.2.1 g s.2.2
/-- jumps and blocks not yet ended -/
def SJ (s : PF) : Prop := (∀ i, i < s.1 → 0 ≤ s.2.1 3 i ∧ s.2.1 3 i ≤ s.1) ∧ ∀ o, o ∈ s.2.2 → o < s.1 ∧ (s.2.1 0 o = 5 ∨ s.2.1 0 o = 6 ∨ s.2.1 0 o = 8)
theorem opm_cg {R R' : Nat → Nat → Int} {g g' : mH} : ∀ (O : List Nat), (∀ k, k < O.length → gI g' 106 k = gI g 106 k ∧ gI g' 107 k = gI g 107 k) → (∀ o, o ∈ O → ∀ x, x ≤ o → R' 0 x = R 0 x) → opm R g O → opm R' g' O
  | [], _, _, _ => trivial
  | o :: O, hk, hR, h => by
    obtain ⟨a, b, c⟩ := h
    have e := hR o List.mem_cons_self
    have e2 : kpV R' o = kpV R o := kpV_cg o (fun x hx => e x (by omega))
    refine ⟨?_, ?_, opm_cg O (fun k hk' => hk k (Nat.lt_succ_of_lt hk')) (fun o' ho' => hR o' (List.mem_cons_of_mem _ ho')) c⟩
    · rw [(hk _ (Nat.lt_succ_self _)).1, e o (Nat.le_refl _)]; exact a
    · rw [(hk _ (Nat.lt_succ_self _)).2, e o (Nat.le_refl _), e2]; exact b
theorem cdV_cg {R R' : Nat → Nat → Int} {i j m : Nat} (hR : ∀ a, a < 4 → R' a i = R a i) (hm : (R 3 i).toNat ≤ m) (hV : ∀ x, x < m → R' 0 x = R 0 x) : cdV R' i j = cdV R i j := by
  unfold cdV
  rw [hR 0 (by omega), hR 1 (by omega), hR 2 (by omega), hR 3 (by omega), kpV_cg (R := R) (R' := R') (R 3 i).toNat (fun x hx => hV x (by omega))]
/-- one step more -/
theorem FO_ext {s s' : PF} {g g' : mH} (hF : FOc s g) (hJ : SJ s) (h1 : s'.1 = s.1 + 1) (hR : ∀ a i, a < 4 → i < s.1 → s'.2.1 a i = s.2.1 a i) (hO : ∀ i, i < s.1 → i ∈ s.2.2 → i ∈ s'.2.2) (hC : ∀ k, k < kpV s.2.1 s.1 → gI g' 105 k = gI g 105 k) (ht : gI g' 83 47 = iI ((kpV s.2.1 s.1 + lnV (s'.2.1 0 s.1) : Nat) : Int)) (hn : ∀ j, j < lnV (s'.2.1 0 s.1) → ¬ (s.1 ∈ s'.2.2 ∧ isJ (s'.2.1 0 s.1) j) → gI g' 105 (kpV s.2.1 s.1 + j) = iI (cdV s'.2.1 s.1 j)) : FOc s' g' := by
  have kz : ∀ i, i ≤ s.1 → kpV s'.2.1 i = kpV s.2.1 i := fun i hi => kpV_cg i (fun x hx => hR 0 x (by omega) (by omega))
  refine ⟨?_, fun i j hi hj ho => ?_⟩
  · rw [h1]
    unfold kpV
    rw [kz s.1 (Nat.le_refl _)]
    exact ht
  · by_cases c : i = s.1
    · subst c
      rw [kz _ (Nat.le_refl _)]
      exact hn j hj ho
    · have il : i < s.1 := by omega
      rw [hR 0 i (by omega) il] at hj ho
      have b := kpV_lt (R := s.2.1) il
      have jb := hJ.1 i il
      rw [kz i (by omega), hC _ (by omega), hF.2 i j il hj (fun x => ho ⟨hO i il x.1, x.2⟩)]
      rw [cdV_cg (R := s.2.1) (R' := s'.2.1) (m := s.1) (fun a ha => hR a i ha il) (by omega) (fun x hx => hR 0 x (by omega) hx)]
/-- a block's end told -/
theorem FO_jmp {sz o j0 : Nat} {R : Nat → Nat → Int} {O : List Nat} {g : mH} (hF : FOc (sz, R, o :: O) g) (ho : o < sz) (hj : isJ (R 0 o) j0) : FOc (sz, upR R 3 o (sz : Nat), O) (pI g 105 (kpV R o + j0) (iI (kpV R sz : Nat))) := by
  obtain ⟨f1, f2⟩ := hF
  simp only at f1 f2
  have u0 : ∀ x, upR R 3 o (sz : Nat) 0 x = R 0 x := fun x => upR_0 (by omega)
  have kz : ∀ i, kpV (upR R 3 o (sz : Nat)) i = kpV R i := fun i => kpV_cg i (fun x _ => u0 x)
  have jl : j0 < lnV (R 0 o) := by
    unfold isJ at hj
    unfold lnV
    rcases hj with ⟨a, b⟩ | ⟨a, b⟩ | ⟨a, b⟩
    all_goals
      rw [a, b]
      decide
  have ju : ∀ j, isJ (R 0 o) j → j = j0 := fun j h2 => by
    unfold isJ at hj h2
    omega
  refine ⟨?_, fun i j hi hj' hn => ?_⟩
  · rw [gI_pI, if_neg (by omega)]
    simp only
    rw [kz]
    exact f1
  · simp only at hi hj' hn ⊢
    rw [u0] at hj' hn
    rw [kz, gI_pI]
    by_cases c : i = o
    · subst c
      by_cases c2 : j = j0
      · subst c2
        rw [if_pos ⟨rfl, rfl⟩]
        congr 1
        unfold cdV
        have e3 : upR R 3 i (sz : Nat) 3 i = (sz : Int) := by unfold upR; rw [if_pos ⟨rfl, rfl⟩]
        rw [e3, u0, Int.toNat_natCast, kz]
        unfold isJ at hj
        rw [if_neg (by omega), if_neg (by omega), if_neg (by omega), if_neg (by omega), if_neg (by omega), if_neg (by omega), if_neg (by omega)]
      · rw [if_neg (by omega), f2 i j hi hj' (fun x => c2 (ju j x.2))]
        congr 1
        unfold cdV
        rw [u0]
        have e12 : ∀ a, a = 1 ∨ a = 2 → upR R 3 i (sz : Nat) a i = R a i := fun a ha => by unfold upR; rw [if_neg (by omega)]
        rw [e12 1 (by omega), e12 2 (by omega)]
        unfold isJ at hj
        unfold lnV at hj'
        have jc : j = 0 ∨ (R 0 i = 5 ∧ j = 1) ∨ (R 0 i = 6 ∧ (j = 1 ∨ j = 2 ∨ j = 3)) := by
          rcases hj with ⟨a, b⟩ | ⟨a, b⟩ | ⟨a, b⟩
          all_goals
            rw [a] at hj' ⊢
            simp at hj'
            omega
        by_cases c0 : j = 0
        · rw [if_pos c0, if_pos c0]
        · rw [if_neg c0, if_neg c0]
          rw [if_neg (show ¬ R 0 i ≤ 1 by omega), if_neg (show ¬ R 0 i ≤ 1 by omega), if_neg (show ¬ R 0 i ≤ 3 by omega), if_neg (show ¬ R 0 i ≤ 3 by omega)]
          by_cases c51 : R 0 i = 5 ∧ j = 1
          · rw [if_pos c51, if_pos c51]
          · rw [if_neg c51, if_neg c51]
            by_cases c61 : R 0 i = 6 ∧ j = 1
            · rw [if_pos c61, if_pos c61]
            · rw [if_neg c61, if_neg c61]
              by_cases c62 : R 0 i = 6 ∧ j = 2
              · rw [if_pos c62, if_pos c62]
              · rw [if_neg c62, if_neg c62]
                rw [if_pos (show R 0 i = 6 ∧ j = 3 by omega), if_pos (show R 0 i = 6 ∧ j = 3 by omega)]
    · have nb : ¬ (kpV R i + j = kpV R o + j0) := by
        rcases Nat.lt_or_ge i o with l | l
        · have := kpV_lt (R := R) l; omega
        · have := kpV_lt (R := R) (show o < i by omega); omega
      rw [if_neg (fun x => nb x.2), f2 i j hi hj' (fun x => hn ⟨(List.mem_cons.mp x.1).resolve_left c, x.2⟩)]
      rw [cdV_cg (R := R) (R' := upR R 3 o (sz : Nat)) (m := (R 3 i).toNat) (fun a ha => by unfold upR; rw [if_neg (by omega)]) (Nat.le_refl _) (fun x _ => u0 x)]
/-- what a piece of reading may touch -/
def puS (q o k : Nat) : Bool := smS o k || ((o == 105 && decide (q ≤ k)) || (o == 83 && (k == 47)))
def scM (o k : Nat) : Bool := smS o k || (decide (105 ≤ o ∧ o ≤ 107) || (o == 83 && (k == 47 || (k == 48))))
def sfM (o k : Nat) : Bool := nmS o k || (decide (105 ≤ o ∧ o ≤ 107) || (o == 83 && (k == 47 || (k == 48))))
def PT (q : Nat) (xs : List Int32) (g : mH) : Prop := gI g 83 47 = iI ((q + xs.length : Nat) : Int) ∧ ∀ j, j < xs.length → gI g 105 (q + j) = xs.getD j 0
theorem PT_c {q : Nat} {xs : List Int32} {g g' : mH} (hC : Cj smS g g') (hP : PT q xs g) : PT q xs g' := by
  refine ⟨by rw [hC.2.2.2 83 47 rfl]; exact hP.1, fun j hj => by rw [hC.2.2.2 105 _ rfl]; exact hP.2 j hj⟩
theorem mX11_puts {q : Nat} {xs : List Int32} {x : Int32} (hi : Iv h) (hP : PT q xs h) (hb : q + xs.length < 600) (k : ∀ g, Cj (puS q) h g → PT q (xs ++ [x]) g → (∀ o, o ≠ 105 → ∀ k, (o = 83 → k ≠ 47) → gI g o k = gI h o k) → (∀ f, TM z n f h → TM z n f g) → (∀ w p, FM h w p → FM g w p) → Q (.inl none) g) : WM G jX11_puts [.ref 83, .int x] h Q := by
  obtain ⟨p1, p2⟩ := hP
  refine eX11_puts hi ?_
  have e : gI (pI h 105 (q + xs.length) x) 83 47 = iI ((q + xs.length : Nat) : Int) := by rw [gI_pI, if_neg (by omega)]; exact p1
  rw [p1, ix_n (by omega), e, n_1, ad_n]
  refine ⟨in_n hb (by omega), k _ ((Cj.rf.pI ?_ _).pI ?_ _) ⟨?_, fun j hj => ?_⟩ (fun o ho k hk => ?_) (fun f t => ?_) (fun w p f => ?_)⟩
  · unfold puS; simp
  · unfold puS; simp
  · rw [gI_pI, if_pos ⟨rfl, rfl⟩, List.length_append]; rfl
  · rw [gI_pI, if_neg (by omega), gI_pI]
    rw [List.length_append] at hj
    have hj' : j < xs.length + 1 := hj
    by_cases c : j = xs.length
    · rw [if_pos ⟨rfl, by omega⟩, c]
      simp
    · rw [if_neg (by omega), p2 j (by omega)]
      rw [List.getD_eq_getElem?_getD, List.getD_eq_getElem?_getD, List.getElem?_append_left (by omega)]
  · rw [gI_pI, if_neg (fun x => hk x.1 x.2), gI_pI, if_neg (fun x => ho x.1)]
  · exact TM_p (.inr (by omega)) (TM_p (.inl (by omega)) t)
  · exact FM_p (.inr (by omega)) (FM_p (.inl (by omega)) f)
end SCM
