section WFS
variable {z : Nat → Int} {n : Nat}
/-- the repeated blocks that a step lies in, the innermost first -/
def rpV (R : Nat → Nat → Int) : Nat → List Nat
  | 0 => []
  | i + 1 => if R 0 i = 5 then i :: rpV R i else if R 0 i = 7 then (rpV R i).tail else rpV R i
/-- how many ELSE lie before a step -/
def eV (R : Nat → Nat → Int) : Nat → Nat
  | 0 => 0
  | i + 1 => eV R i + (if R 0 i = 8 then 1 else 0)
def fltO (R : Nat → Nat → Int) : List Nat → List Nat
  | [] => []
  | o :: O => if R 0 o = 5 then o :: fltO R O else fltO R O
def okO (R : Nat → Nat → Int) : List Nat → Prop
  | [] => True
  | o :: O => rpV R o = fltO R O ∧ okO R O
def whO (R : Nat → Nat → Int) : List Nat → Nat
  | [] => 0
  | o :: O => whO R O + (if R 0 o = 6 then 1 else 0)
def nOk (R : Nat → Nat → Int) (i : Nat) : Prop := (0 ≤ R 0 i ∧ R 0 i ≤ 8) ∧ (R 0 i ≤ 1 → 1 ≤ R 1 i ∧ R 1 i ≤ 200) ∧ (R 0 i = 2 ∨ R 0 i = 3 → (0 ≤ R 1 i ∧ R 1 i ≤ 3) ∧ -90 ≤ R 2 i ∧ R 2 i ≤ 90) ∧ (R 0 i = 5 → 0 ≤ R 1 i ∧ R 1 i ≤ 20) ∧ (R 0 i = 6 → (0 ≤ R 1 i ∧ R 1 i ≤ 6) ∧ 0 ≤ R 2 i ∧ R 2 i ≤ 1)
def jOk (R : Nat → Nat → Int) (sz i : Nat) : Prop := ∃ j : Nat, R 3 i = j ∧ i < j ∧ j ≤ sz ∧ rpV R j = rpV R i
def gOk (R : Nat → Nat → Int) (i : Nat) : Prop := ∃ o : Nat, R 1 i = o ∧ o < i ∧ R 0 o = 5 ∧ R 3 i = ((o + 1 : Nat) : Int) ∧ rpV R i = o :: rpV R o
def WO (s : PF) : Prop := (∀ i, i < s.1 → nOk s.2.1 i) ∧ (∀ i, i < s.1 → i ∉ s.2.2 → (s.2.1 0 i = 5 ∨ s.2.1 0 i = 6 ∨ s.2.1 0 i = 8) → jOk s.2.1 s.1 i) ∧ (∀ i, i < s.1 → s.2.1 0 i = 7 → gOk s.2.1 i) ∧ rpV s.2.1 s.1 = fltO s.2.1 s.2.2 ∧ okO s.2.1 s.2.2
def EC (s : PF) (f : Nat) : Prop := 12 * eV s.2.1 s.1 + 6 * whO s.2.1 s.2.2 ≤ f
theorem rpV_s {R : Nat → Nat → Int} {i : Nat} : rpV R (i + 1) = if R 0 i = 5 then i :: rpV R i else if R 0 i = 7 then (rpV R i).tail else rpV R i := rfl
theorem fltO_s {R : Nat → Nat → Int} {o : Nat} {O : List Nat} : fltO R (o :: O) = if R 0 o = 5 then o :: fltO R O else fltO R O := rfl
theorem rpV_cg {R R' : Nat → Nat → Int} : ∀ i, (∀ x, x < i → R' 0 x = R 0 x) → rpV R' i = rpV R i
  | 0, _ => rfl
  | i + 1, h => by
    unfold rpV
    rw [rpV_cg i (fun x hx => h x (by omega)), h i (by omega)]
theorem eV_cg {R R' : Nat → Nat → Int} : ∀ i, (∀ x, x < i → R' 0 x = R 0 x) → eV R' i = eV R i
  | 0, _ => rfl
  | i + 1, h => by
    unfold eV
    rw [eV_cg i (fun x hx => h x (by omega)), h i (by omega)]
theorem fltO_cg {R R' : Nat → Nat → Int} : ∀ (O : List Nat), (∀ o, o ∈ O → R' 0 o = R 0 o) → fltO R' O = fltO R O
  | [], _ => rfl
  | o :: O, h => by
    unfold fltO
    rw [fltO_cg O (fun x hx => h x (List.mem_cons_of_mem _ hx)), h o List.mem_cons_self]
theorem whO_cg {R R' : Nat → Nat → Int} : ∀ (O : List Nat), (∀ o, o ∈ O → R' 0 o = R 0 o) → whO R' O = whO R O
  | [], _ => rfl
  | o :: O, h => by
    unfold whO
    rw [whO_cg O (fun x hx => h x (List.mem_cons_of_mem _ hx)), h o List.mem_cons_self]
theorem okO_cg {R R' : Nat → Nat → Int} {m : Nat} (h : ∀ x, x < m → R' 0 x = R 0 x) : ∀ (O : List Nat), (∀ o, o ∈ O → o < m) → okO R O → okO R' O
  | [], _, _ => trivial
  | o :: O, hm, hk => by
    have om := hm o List.mem_cons_self
    refine ⟨?_, okO_cg h O (fun x hx => hm x (List.mem_cons_of_mem _ hx)) hk.2⟩
    rw [rpV_cg o (fun x hx => h x (by omega)), fltO_cg O (fun x hx => h x (hm x (List.mem_cons_of_mem _ hx)))]
    exact hk.1
theorem nOk_cg {R R' : Nat → Nat → Int} {i : Nat} (h : ∀ a, a < 3 → R' a i = R a i) (hn : nOk R i) : nOk R' i := by
  unfold nOk at hn ⊢
  rw [h 0 (by omega), h 1 (by omega), h 2 (by omega)]
  exact hn
theorem jOk_cg {R R' : Nat → Nat → Int} {sz m i : Nat} (hi : i < sz) (h3 : R' 3 i = R 3 i) (hV : ∀ x, x < sz → R' 0 x = R 0 x) (hm : sz ≤ m) (hj : jOk R sz i) : jOk R' m i := by
  obtain ⟨j, a, b, c, d⟩ := hj
  refine ⟨j, h3.trans a, b, by omega, ?_⟩
  rw [rpV_cg j (fun x hx => hV x (by omega)), rpV_cg i (fun x hx => hV x (by omega))]
  exact d
theorem gOk_cg {R R' : Nat → Nat → Int} {sz i : Nat} (hi : i < sz) (h1 : R' 1 i = R 1 i) (h3 : R' 3 i = R 3 i) (hV : ∀ x, x < sz → R' 0 x = R 0 x) (hg : gOk R i) : gOk R' i := by
  obtain ⟨o, a, b, c, d, e⟩ := hg
  refine ⟨o, h1.trans a, b, by rw [hV o (by omega)]; exact c, h3.trans d, ?_⟩
  rw [rpV_cg i (fun x hx => hV x (by omega)), rpV_cg o (fun x hx => hV x (by omega))]
  exact e
theorem rAct_n {s : PF} {f : Nat} {r : PF × Nat} (h : rAct z n s f = .inr r) : nOk r.1.2.1 s.1 := by
  unfold rAct at h
  split at h
  · cases h
  · rename_i v hv
    obtain ⟨v6, fn, fl, an⟩ := vbT_b hv
    split at h
    · cases h
    · unfold rAc2 at h
      have es : (adS s v).1 - 1 = s.1 := rfl
      split at h
      · obtain ⟨v1, e, b1, b2, _⟩ := rNm_r an h
        rw [e]
        simp only [es]
        have r0 : upR (adS s v).2.1 1 s.1 v1 0 s.1 = v := by rw [upR_na (by omega), adS_n]
        have r1 : upR (adS s v).2.1 1 s.1 v1 1 s.1 = v1 := upR_eq
        unfold nOk
        rw [r0, r1]
        omega
      · have chg : ∀ m, m ≤ 90 → rChg z n (adS s v) (adT z n f) m = .inr r → v = 2 ∨ v = 3 → nOk r.1.2.1 s.1 := fun m hm h hv => by
          obtain ⟨v1, w1, e, b1, b2, b3, b4, _⟩ := rChg_r an h
          rw [e]
          simp only [es]
          have r0 : upR (upR (adS s v).2.1 1 s.1 v1) 2 s.1 w1 0 s.1 = v := by rw [upR_na (by omega), upR_na (by omega), adS_n]
          have r1 : upR (upR (adS s v).2.1 1 s.1 v1) 2 s.1 w1 1 s.1 = v1 := by rw [upR_na (by omega), upR_eq]
          have r2 : upR (upR (adS s v).2.1 1 s.1 v1) 2 s.1 w1 2 s.1 = w1 := upR_eq
          unfold nOk
          rw [r0, r1, r2]
          omega
        split at h
        · exact chg 9 (by omega) h (by omega)
        · split at h
          · exact chg 90 (by omega) h (by omega)
          · split at h
            · rename_i c4
              cases h
              unfold nOk
              simp only
              rw [adS_n]
              omega
            · split at h
              · obtain ⟨q, hq, h⟩ := bnd_r h
                obtain ⟨v1, e, b1, b2, _⟩ := rNm_r an hq
                obtain ⟨e2, _⟩ := rOpn_r h
                rw [e2, e]
                simp only [es]
                have r0 : upR (adS s v).2.1 1 s.1 v1 0 s.1 = v := by rw [upR_na (by omega), adS_n]
                have r1 : upR (adS s v).2.1 1 s.1 v1 1 s.1 = v1 := upR_eq
                unfold nOk
                rw [r0, r1]
                omega
              · obtain ⟨q, hq, h⟩ := bnd_r h
                obtain ⟨v1, w1, e, b1, b2, b3, b4, _⟩ := rTst_r an hq
                obtain ⟨e2, _⟩ := rOpn_r h
                rw [e2, e]
                simp only [es]
                have r0 : upR (upR (adS s v).2.1 2 s.1 w1) 1 s.1 v1 0 s.1 = v := by rw [upR_na (by omega), upR_na (by omega), adS_n]
                have r1 : upR (upR (adS s v).2.1 2 s.1 w1) 1 s.1 v1 1 s.1 = v1 := upR_eq
                have r2 : upR (upR (adS s v).2.1 2 s.1 w1) 1 s.1 v1 2 s.1 = w1 := by rw [upR_na (by omega), upR_eq]
                unfold nOk
                rw [r0, r1, r2]
                omega
theorem rAct_w {s : PF} {f : Nat} {r : PF × Nat} (hI : SI s f) (hJ : SJ s) (hW : WO s) (hE : EC s f) (h : rAct z n s f = .inr r) : WO r.1 ∧ EC r.1 r.2 := by
  obtain ⟨v, v6, e1, e2, e3, e4, e5⟩ := rAct_f hI h
  have hn := rAct_n h
  have hlen : f + (if 5 ≤ v then 6 else 4) ≤ r.2 := by
    unfold rAct at h
    split at h
    · cases h
    · rename_i v' hv
      obtain ⟨v6', fn, fl, an⟩ := vbT_b hv
      split at h
      · cases h
      · obtain ⟨_, b2, _, b4, _⟩ := rAc2_r v6' an h
        have : (v : Int) = v' := by rw [← e3, b2, adS_n]
        have : v = v' := by omega
        subst this
        split at fl <;> split at b4 <;> split <;> omega
  obtain ⟨w1, w2, w3, w4, w5⟩ := hW
  have V : ∀ x, x < s.1 → r.1.2.1 0 x = s.2.1 0 x := fun x hx => e2 0 x (by omega)
  have Om : ∀ o, o ∈ s.2.2 → o < s.1 := fun o ho => (hJ.2 o ho).1
  have rs : ∀ i, i ≤ s.1 → rpV r.1.2.1 i = rpV s.2.1 i := fun i hi => rpV_cg i (fun x hx => V x (by omega))
  have fl : fltO r.1.2.1 s.2.2 = fltO s.2.1 s.2.2 := fltO_cg _ (fun o ho => V o (Om o ho))
  have wh : whO r.1.2.1 s.2.2 = whO s.2.1 s.2.2 := whO_cg _ (fun o ho => V o (Om o ho))
  have ok : okO r.1.2.1 s.2.2 := okO_cg V _ Om w5
  refine ⟨⟨fun i hi => ?_, fun i hi ho hv => ?_, fun i hi hv => ?_, ?_, ?_⟩, ?_⟩
  · by_cases c : i = s.1
    · rw [c]; exact hn
    · exact nOk_cg (fun a _ => e2 a i c) (w1 i (by omega))
  · by_cases c : i = s.1
    · exfalso
      rw [c, e3] at hv
      rw [e5, if_pos (by omega), c] at ho
      exact ho List.mem_cons_self
    · have il : i < s.1 := by omega
      rw [e2 0 i c] at hv
      exact jOk_cg il (e2 3 i c) V (by omega) (w2 i il (fun x => ho (by rw [e5]; split; exact List.mem_cons_of_mem _ x; exact x)) hv)
  · by_cases c : i = s.1
    · rw [c, e3] at hv
      omega
    · have il : i < s.1 := by omega
      rw [e2 0 i c] at hv
      exact gOk_cg il (e2 1 i c) (e2 3 i c) V (w3 i il hv)
  · rw [e1, e5, rpV_s]
    rw [e3, rs s.1 (Nat.le_refl _), w4]
    by_cases c5 : v = 5
    · rw [if_pos (by omega), if_pos (by omega), fltO_s]
      rw [e3, if_pos (by omega), fl]
    · rw [if_neg (by omega), if_neg (by omega)]
      split
      · rw [fltO_s, e3, if_neg (by omega), fl]
      · rw [fl]
  · rw [e5]
    split
    · exact ⟨by rw [rs s.1 (Nat.le_refl _), w4, fl], ok⟩
    · exact ok
  · unfold EC at hE ⊢
    rw [e1, e5]
    unfold eV
    rw [e3, eV_cg s.1 V, if_neg (by omega)]
    split at hlen
    · rw [if_pos (by omega)]
      unfold whO
      rw [e3, wh]
      split <;> omega
    · rw [if_neg (by omega), wh]
      omega
theorem rClo_w {s : PF} {o f : Nat} {O : List Nat} {r : PF × Nat} (hO : s.2.2 = o :: O) (hf : f < n) (hJ : SJ s) (hW : WO s) (hE : EC s f) (h : rClo z n s o O f = .inr r) : WO r.1 ∧ EC r.1 r.2 := by
  obtain ⟨w1, w2, w3, w4, w5⟩ := hW
  obtain ⟨os, ov⟩ := hJ.2 o (by rw [hO]; exact List.mem_cons_self)
  have Os : ∀ x, x ∈ O → x < s.1 := fun x hx => (hJ.2 x (by rw [hO]; exact List.mem_cons_of_mem _ hx)).1
  unfold EC at hE ⊢
  rw [hO] at w2 w4 w5 hE
  obtain ⟨k1, k2⟩ := w5
  unfold whO at hE
  have al := adT_lt (z := z) hf
  have no' : ∀ i, i ≠ o → i ∉ O → i ∉ o :: O := fun i h1 h2 h3 => (List.mem_cons.mp h3).elim h1 h2
  unfold rClo at h
  split at h
  · rename_i c5
    cases h
    simp only
    generalize hR : upR (upR (upR (adS s 7).2.1 3 s.1 (o + 1 : Nat)) 1 s.1 (o : Nat)) 3 o (s.1 + 1 : Nat) = R'
    have V0 : ∀ x, R' 0 x = (adS s 7).2.1 0 x := fun x => by rw [← hR, upR_0 (by omega), upR_0 (by omega), upR_0 (by omega)]
    have V : ∀ x, x < s.1 → R' 0 x = s.2.1 0 x := fun x hx => by rw [V0, adS_ne (by omega)]
    have Vn : R' 0 s.1 = 7 := by rw [V0, adS_n]
    have rs : ∀ i, i ≤ s.1 → rpV R' i = rpV s.2.1 i := fun i hi => rpV_cg i (fun x hx => V x (by omega))
    have oth : ∀ a i, i ≠ s.1 → (i ≠ o ∨ a ≠ 3) → R' a i = s.2.1 a i := fun a i h1 h2 => by
      rw [← hR]
      by_cases c : i = o
      · rw [upR_na (by omega), upR_ne h1, upR_ne h1, adS_ne h1]
      · rw [upR_ne c, upR_ne h1, upR_ne h1, adS_ne h1]
    have fo : rpV s.2.1 s.1 = o :: rpV s.2.1 o := by
      rw [w4, k1]
      show (if s.2.1 0 o = 5 then o :: fltO s.2.1 O else fltO s.2.1 O) = _
      rw [if_pos c5]
    have rn1 : rpV R' (s.1 + 1) = rpV s.2.1 o := by
      rw [rpV_s, Vn, if_neg (by omega), if_pos rfl, rs s.1 (Nat.le_refl _), fo]
      rfl
    refine ⟨⟨fun i hi => ?_, fun i hi ho hv => ?_, fun i hi hv => ?_, ?_, ?_⟩, ?_⟩
    · simp only at hi ⊢
      by_cases c : i = s.1
      · rw [c]
        unfold nOk
        rw [Vn]
        omega
      · exact nOk_cg (fun a ha => oth a i c (.inr (by omega))) (w1 i (by omega))
    · simp only at hi ho hv ⊢
      by_cases c : i = s.1
      · rw [c, Vn] at hv
        omega
      · by_cases co : i = o
        · refine ⟨s.1 + 1, ?_, by omega, Nat.le_refl _, ?_⟩
          · rw [← hR, co, upR_eq]
          · rw [rn1, co, rs o (by omega)]
        · rw [V i (by omega)] at hv
          exact jOk_cg (by omega) (oth 3 i c (.inl co)) V (by omega) (w2 i (by omega) (no' i co ho) hv)
    · simp only at hi hv ⊢
      by_cases c : i = s.1
      · subst c
        refine ⟨o, ?_, os, by rw [V o os]; exact c5, ?_, ?_⟩
        · rw [← hR, upR_na (by omega), upR_eq]
        · rw [← hR, upR_ne (by omega), upR_na (by omega), upR_eq]
        · rw [rs _ (Nat.le_refl _), fo, rs o (by omega)]
      · rw [V i (by omega)] at hv
        have co : i ≠ o := fun e => by rw [e, c5] at hv; omega
        exact gOk_cg (by omega) (oth 1 i c (.inr (by omega))) (oth 3 i c (.inl co)) V (w3 i (by omega) hv)
    · simp only
      rw [rn1, k1, fltO_cg O (fun x hx => V x (Os x hx))]
    · exact okO_cg V O Os k2
    · unfold eV
      rw [Vn, if_neg (by omega), eV_cg s.1 V, whO_cg O (fun x hx => V x (Os x hx))]
      rw [if_neg (by omega)] at hE
      omega
  · rename_i c5
    have fo : rpV s.2.1 s.1 = rpV s.2.1 o := by
      rw [w4, k1]
      show (if s.2.1 0 o = 5 then o :: fltO s.2.1 O else fltO s.2.1 O) = _
      rw [if_neg c5]
    split at h
    · rename_i c6
      obtain ⟨e2, l3, l4, e5, _⟩ := rOpn_r h
      have l2 := wdS_ad c6.2
      have lens : "else".length = 4 := by decide
      rw [lens] at l2
      rw [e2]
      simp only
      generalize hR : upR (adS s 8).2.1 3 o (s.1 + 1 : Nat) = R'
      have V : ∀ x, x < s.1 → R' 0 x = s.2.1 0 x := fun x hx => by rw [← hR, upR_0 (by omega), adS_ne (by omega)]
      have Vn : R' 0 s.1 = 8 := by rw [← hR, upR_0 (by omega), adS_n]
      have rs : ∀ i, i ≤ s.1 → rpV R' i = rpV s.2.1 i := fun i hi => rpV_cg i (fun x hx => V x (by omega))
      have oth : ∀ a i, i ≠ s.1 → (i ≠ o ∨ a ≠ 3) → R' a i = s.2.1 a i := fun a i h1 h2 => by
        rw [← hR]
        by_cases c : i = o
        · rw [upR_na (by omega), adS_ne h1]
        · rw [upR_ne c, adS_ne h1]
      have rn1 : rpV R' (s.1 + 1) = rpV s.2.1 o := by
        rw [rpV_s, Vn, if_neg (by omega), if_neg (by omega), rs s.1 (Nat.le_refl _), fo]
      have fO : fltO R' O = fltO s.2.1 O := fltO_cg O (fun x hx => V x (Os x hx))
      refine ⟨⟨fun i hi => ?_, fun i hi ho hv => ?_, fun i hi hv => ?_, ?_, ?_⟩, ?_⟩
      · simp only at hi ⊢
        by_cases c : i = s.1
        · rw [c]
          unfold nOk
          rw [Vn]
          omega
        · exact nOk_cg (fun a ha => oth a i c (.inr (by omega))) (w1 i (by omega))
      · simp only at hi ho hv ⊢
        by_cases c : i = s.1
        · exact absurd (by rw [c]; exact List.mem_cons_self) ho
        · by_cases co : i = o
          · refine ⟨s.1 + 1, ?_, by omega, Nat.le_refl _, ?_⟩
            · rw [← hR, co, upR_eq]
            · rw [rn1, co, rs o (by omega)]
          · rw [V i (by omega)] at hv
            exact jOk_cg (by omega) (oth 3 i c (.inl co)) V (by omega) (w2 i (by omega) (no' i co (fun x => ho (List.mem_cons_of_mem _ x))) hv)
      · simp only at hi hv ⊢
        by_cases c : i = s.1
        · rw [c, Vn] at hv
          omega
        · rw [V i (by omega)] at hv
          have co : i ≠ o := fun e => by rw [e, c6.1] at hv; omega
          exact gOk_cg (by omega) (oth 1 i c (.inr (by omega))) (oth 3 i c (.inl co)) V (w3 i (by omega) hv)
      · simp only
        rw [rn1, k1]
        show _ = (if R' 0 s.1 = 5 then s.1 :: fltO R' O else fltO R' O)
        rw [Vn, if_neg (by omega), fO]
      · refine ⟨?_, okO_cg V O Os k2⟩
        show rpV R' s.1 = fltO R' O
        rw [rs s.1 (Nat.le_refl _), fo, k1, fO]
      · unfold eV
        show 12 * (eV R' s.1 + _) + 6 * (whO R' O + (if R' 0 s.1 = 6 then 1 else 0)) ≤ _
        rw [Vn, if_pos rfl, if_neg (by omega), eV_cg s.1 V, whO_cg O (fun x hx => V x (Os x hx))]
        rw [if_pos c6.1] at hE
        omega
    · cases h
      simp only
      generalize hR : upR s.2.1 3 o (s.1 : Nat) = R'
      have V : ∀ x, x < s.1 → R' 0 x = s.2.1 0 x := fun x hx => by rw [← hR, upR_0 (by omega)]
      have rs : ∀ i, i ≤ s.1 → rpV R' i = rpV s.2.1 i := fun i hi => rpV_cg i (fun x hx => V x (by omega))
      have oth : ∀ a i, (i ≠ o ∨ a ≠ 3) → R' a i = s.2.1 a i := fun a i h2 => by
        rw [← hR]
        by_cases c : i = o
        · rw [upR_na (by omega)]
        · rw [upR_ne c]
      refine ⟨⟨fun i hi => ?_, fun i hi ho hv => ?_, fun i hi hv => ?_, ?_, ?_⟩, ?_⟩
      · exact nOk_cg (fun a ha => oth a i (.inr (by omega))) (w1 i hi)
      · simp only at hi ho hv ⊢
        by_cases co : i = o
        · refine ⟨s.1, ?_, by omega, Nat.le_refl _, ?_⟩
          · rw [← hR, co, upR_eq]
          · rw [rs s.1 (Nat.le_refl _), fo, co, rs o (by omega)]
        · rw [V i hi] at hv
          exact jOk_cg hi (oth 3 i (.inl co)) V (Nat.le_refl _) (w2 i hi (no' i co ho) hv)
      · simp only at hi hv ⊢
        rw [V i hi] at hv
        have co : i ≠ o := fun e => by rw [e] at hv; omega
        exact gOk_cg hi (oth 1 i (.inr (by omega))) (oth 3 i (.inl co)) V (w3 i hi hv)
      · simp only
        rw [rs s.1 (Nat.le_refl _), fo, k1, fltO_cg O (fun x hx => V x (Os x hx))]
      · exact okO_cg V O Os k2
      · rw [eV_cg s.1 V, whO_cg O (fun x hx => V x (Os x hx))]
        omega
theorem rPie_w {s : PF} {f : Nat} {r : PF × Nat} (hf : f < n) (hI : SI s f) (hJ : SJ s) (hW : WO s) (hE : EC s f) (h : rPie z n s f = .inr r) : WO r.1 ∧ EC r.1 r.2 := by
  unfold rPie at h
  split at h
  · exact rAct_w hI hJ hW hE h
  · rename_i o O hO
    split at h
    · exact rClo_w hO hf hJ hW hE h
    · exact rAct_w hI hJ hW hE h
/-- a score that was read -/
def WF (s : PF) : Prop := s.1 ≤ 100 ∧ s.2.2 = [] ∧ WO s ∧ SJ s ∧ eV s.2.1 s.1 ≤ 33
theorem scR_wf (hn : n ≤ 400) : ∀ (d : Nat) (s s' : PF) (f : Nat), n < f + d → f ≤ n → SI s f → SJ s → WO s → EC s f → scR z n d s f = .inr s' → WF s'
  | 0, s, s', f, hd, hf, _, _, _, _, _ => by omega
  | d + 1, s, s', f, hd, hf, hI, hJ, hW, hE, h => by
    unfold scR at h
    split at h
    · split at h
      · rename_i c
        cases h
        unfold EC at hE
        exact ⟨by have := hI.1; omega, c, hW, hJ, by omega⟩
      · cases h
    · obtain ⟨r, hr, h⟩ := bnd_r h
      have a := rPie_r hI (by omega) hr
      have b := rPie_w (by omega) hI hJ hW hE hr
      exact scR_wf hn d r.1 s' r.2 (by omega) a.2.2 a.1 (rPie_j hI hJ hr) b.1 b.2 h
theorem scR_w0 (hn : n ≤ 400) {s' : PF} {f : Nat} (hf : f ≤ n) (h : scR z n 401 s0P f = .inr s') : WF s' :=
  scR_wf hn 401 s0P s' f (by omega) hf ⟨by show 4 * (0 + 0) ≤ f; omega, by decide, fun o ho => by cases ho⟩ ⟨fun i hi => absurd hi (by show ¬ i < 0; omega), fun o ho => by cases ho⟩ ⟨fun i hi => absurd hi (by show ¬ i < 0; omega), fun i hi => absurd hi (by show ¬ i < 0; omega), fun i hi => absurd hi (by show ¬ i < 0; omega), rfl, trivial⟩ (by show 12 * 0 + 6 * 0 ≤ f; omega) h
theorem s0_WF : WF s0P := ⟨by decide, rfl, ⟨fun i hi => absurd hi (by show ¬ i < 0; omega), fun i hi => absurd hi (by show ¬ i < 0; omega), fun i hi => absurd hi (by show ¬ i < 0; omega), rfl, trivial⟩, ⟨fun i hi => absurd hi (by show ¬ i < 0; omega), fun o ho => by cases ho⟩, by decide⟩
end WFS
