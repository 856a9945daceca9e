section SCM3
variable {G : GX} {h : mH} {Q : mO → mH → Prop} {z : Nat → Int} {n : Nat}
theorem upR_ne {R : Nat → Nat → Int} {a i a0 i0 : Nat} {v : Int} (h : i ≠ i0) : upR R a0 i0 v a i = R a i := by
  unfold upR
  rw [if_neg (fun e => h e.2)]
theorem upR_na {R : Nat → Nat → Int} {a i a0 i0 : Nat} {v : Int} (h : a ≠ a0) : upR R a0 i0 v a i = R a i := by
  unfold upR
  rw [if_neg (fun e => h e.1)]
theorem upR_eq {R : Nat → Nat → Int} {a i : Nat} {v : Int} : upR R a i v a i = v := by
  unfold upR
  rw [if_pos ⟨rfl, rfl⟩]
theorem adS_ne {s : PF} {v : Int} {a i : Nat} (h : i ≠ s.1) : (adS s v).2.1 a i = s.2.1 a i := by
  unfold adS
  simp only
  rw [upR_ne h, upR_ne h, upR_ne h, upR_ne h]
theorem adS_3 {s : PF} {v : Int} : (adS s v).2.1 3 s.1 = 0 := by
  unfold adS
  simp only
  rw [upR_eq]
theorem rAct_f {s : PF} {f : Nat} {r : PF × Nat} (hI : SI s f) (h : rAct z n s f = .inr r) : ∃ v : Nat, v ≤ 6 ∧ r.1.1 = s.1 + 1 ∧ (∀ a i, i ≠ s.1 → r.1.2.1 a i = s.2.1 a i) ∧ r.1.2.1 0 s.1 = v ∧ r.1.2.1 3 s.1 = 0 ∧ r.1.2.2 = (if 5 ≤ v then s.1 :: s.2.2 else s.2.2) := by
  unfold rAct at h
  split at h
  · cases h
  · rename_i v hv
    obtain ⟨v6, fn, fl, an⟩ := vbT_b hv
    split at h
    · cases h
    · refine ⟨v, v6, ?_⟩
      unfold rAc2 at h
      have es : (adS s v).1 - 1 = s.1 := rfl
      split at h
      · obtain ⟨v1, e, _⟩ := rNm_r an h
        rw [e, if_neg (by omega)]
        refine ⟨rfl, fun a i hi => ?_, ?_, ?_, rfl⟩
        all_goals simp only [es]
        · rw [upR_ne hi, adS_ne hi]
        · rw [upR_na (by omega), adS_n]
        · rw [upR_na (by omega), adS_3]
      · have chg : ∀ m, rChg z n (adS s v) (adT z n f) m = .inr r → v = 2 ∨ v = 3 → r.1.1 = s.1 + 1 ∧ (∀ a i, i ≠ s.1 → r.1.2.1 a i = s.2.1 a i) ∧ r.1.2.1 0 s.1 = v ∧ r.1.2.1 3 s.1 = 0 ∧ r.1.2.2 = (if 5 ≤ v then s.1 :: s.2.2 else s.2.2) := fun m h hv => by
          obtain ⟨v1, w1, e, _⟩ := rChg_r an h
          rw [e, if_neg (by omega)]
          refine ⟨rfl, fun a i hi => ?_, ?_, ?_, rfl⟩
          all_goals simp only [es]
          · rw [upR_ne hi, upR_ne hi, adS_ne hi]
          · rw [upR_na (by omega), upR_na (by omega), adS_n]
          · rw [upR_na (by omega), upR_na (by omega), adS_3]
        split at h
        · exact chg 9 h (by omega)
        · split at h
          · exact chg 90 h (by omega)
          · split at h
            · cases h
              rw [if_neg (by omega)]
              exact ⟨rfl, fun a i hi => adS_ne hi, adS_n, adS_3, rfl⟩
            · rw [if_pos (by omega)]
              split at h
              · obtain ⟨q, hq, h⟩ := bnd_r h
                obtain ⟨v1, e, _⟩ := rNm_r an hq
                obtain ⟨e2, _⟩ := rOpn_r h
                rw [e2, e]
                refine ⟨rfl, fun a i hi => ?_, ?_, ?_, rfl⟩
                all_goals simp only [es]
                · rw [upR_ne hi, adS_ne hi]
                · rw [upR_na (by omega), adS_n]
                · rw [upR_na (by omega), adS_3]
              · obtain ⟨q, hq, h⟩ := bnd_r h
                obtain ⟨v1, w1, e, _⟩ := rTst_r an hq
                obtain ⟨e2, _⟩ := rOpn_r h
                rw [e2, e]
                refine ⟨rfl, fun a i hi => ?_, ?_, ?_, rfl⟩
                all_goals simp only [es]
                · rw [upR_ne hi, upR_ne hi, adS_ne hi]
                · rw [upR_na (by omega), upR_na (by omega), adS_n]
                · rw [upR_na (by omega), upR_na (by omega), adS_3]
theorem rAct_j {s : PF} {f : Nat} {r : PF × Nat} (hI : SI s f) (hJ : SJ s) (h : rAct z n s f = .inr r) : SJ r.1 := by
  obtain ⟨v, v6, e1, e2, e3, e4, e5⟩ := rAct_f hI h
  refine ⟨fun i hi => ?_, fun o ho => ?_⟩
  · by_cases c : i = s.1
    · rw [c, e4, e1]; omega
    · rw [e2 3 i c, e1]
      have := hJ.1 i (by omega)
      omega
  · rw [e5] at ho
    by_cases c : o = s.1
    · subst c
      rw [e3, e1]
      split at ho
      · omega
      · have := (hJ.2 _ ho).1; omega
    · rw [e2 0 o c, e1]
      have : o ∈ s.2.2 := by
        split at ho
        · exact (List.mem_cons.mp ho).resolve_left c
        · exact ho
      have := hJ.2 o this
      exact ⟨by omega, this.2⟩
theorem rClo_j {s : PF} {o f : Nat} {O : List Nat} {r : PF × Nat} (hO : s.2.2 = o :: O) (hJ : SJ s) (h : rClo z n s o O f = .inr r) : SJ r.1 := by
  have os := hJ.2 o (by rw [hO]; exact List.mem_cons_self)
  have Os : ∀ x, x ∈ O → x < s.1 ∧ (s.2.1 0 x = 5 ∨ s.2.1 0 x = 6 ∨ s.2.1 0 x = 8) := fun x hx => hJ.2 x (by rw [hO]; exact List.mem_cons_of_mem _ hx)
  unfold rClo at h
  split at h
  · cases h
    refine ⟨fun i hi => ?_, fun x hx => ?_⟩
    · simp only at hi ⊢
      by_cases c : i = o
      · subst c; rw [upR_eq]; omega
      · rw [upR_ne c, upR_na (by omega)]
        by_cases c2 : i = s.1
        · subst c2; rw [upR_eq]; omega
        · rw [upR_ne c2, adS_ne c2]
          have := hJ.1 i (by omega)
          omega
    · have := Os x hx
      simp only
      rw [upR_na (by omega), upR_na (by omega), upR_na (by omega), adS_ne (by omega)]
      exact ⟨by omega, this.2⟩
  · split at h
    · obtain ⟨e2, _⟩ := rOpn_r h
      rw [e2]
      refine ⟨fun i hi => ?_, fun x hx => ?_⟩
      · simp only at hi ⊢
        by_cases c : i = o
        · subst c; rw [upR_eq]; omega
        · rw [upR_ne c]
          by_cases c2 : i = s.1
          · subst c2; rw [adS_3]; omega
          · rw [adS_ne c2]
            have := hJ.1 i (by omega)
            omega
      · simp only at hx ⊢
        rw [upR_na (by omega)]
        rcases List.mem_cons.mp hx with e | hx
        · have e' : x = s.1 := e
          subst e'
          rw [adS_n]
          omega
        · have := Os x hx
          rw [adS_ne (by omega)]
          exact ⟨by omega, this.2⟩
    · cases h
      refine ⟨fun i hi => ?_, fun x hx => ?_⟩
      · simp only at hi ⊢
        by_cases c : i = o
        · subst c; rw [upR_eq]; omega
        · rw [upR_ne c]
          exact hJ.1 i hi
      · have := Os x hx
        simp only
        rw [upR_na (by omega)]
        exact this
theorem rPie_j {s : PF} {f : Nat} {r : PF × Nat} (hI : SI s f) (hJ : SJ s) (h : rPie z n s f = .inr r) : SJ r.1 := by
  unfold rPie at h
  split at h
  · exact rAct_j hI hJ h
  · rename_i o O hO
    split at h
    · exact rClo_j hO hJ h
    · exact rAct_j hI hJ h
theorem FOc_c {s : PF} {g g' : mH} {S : Nat → Nat → Bool} (hC : Cj S g g') (h1 : ∀ k, S 105 k = false) (h2 : S 83 47 = false) (hF : FOc s g) : FOc s g' :=
  ⟨by rw [hC.2.2.2 83 47 h2]; exact hF.1, fun i j hi hj ho => by rw [hC.2.2.2 105 _ (h1 _)]; exact hF.2 i j hi hj ho⟩
/-- a step is told -/
theorem FO_fin {s s' : PF} {g : mH} {xs : List Int32} (hF : FOc s h) (hJ : SJ s) (hC : Cj (puS (kpV s.2.1 s.1)) h g) (hP : PT (kpV s.2.1 s.1) xs g) (h1 : s'.1 = s.1 + 1) (hR : ∀ a i, i ≠ s.1 → s'.2.1 a i = s.2.1 a i) (hO : ∀ i, i < s.1 → i ∈ s.2.2 → i ∈ s'.2.2) (hl : xs.length = lnV (s'.2.1 0 s.1)) (hn : ∀ j, j < xs.length → ¬ (s.1 ∈ s'.2.2 ∧ isJ (s'.2.1 0 s.1) j) → xs.getD j 0 = iI (cdV s'.2.1 s.1 j)) : FOc s' g := by
  refine FO_ext hF hJ h1 (fun a i _ hi => hR a i (by omega)) hO (fun k hk => hC.2.2.2 105 k ?_) ?_ (fun j hj ho => ?_)
  · unfold puS smS
    simp
    omega
  · rw [← hl]; exact hP.1
  · rw [← hl] at hj
    rw [hP.2 j hj]
    exact hn j hj ho
theorem FOo_k {s s' : PF} {g : mH} {q : Nat} (hF : FOo s h) (hJ : SJ s) (hC : Cj (puS q) h g) (hR : ∀ a i, i ≠ s.1 → s'.2.1 a i = s.2.1 a i) (hO : s'.2.2 = s.2.2) : FOo s' g := by
  obtain ⟨a, b⟩ := hF
  refine ⟨by rw [hC.2.2.2 83 48 rfl, hO]; exact a, ?_⟩
  rw [hO]
  refine opm_cg _ (fun k _ => ⟨hC.2.2.2 106 k rfl, hC.2.2.2 107 k rfl⟩) (fun o ho x hx => hR 0 x ?_) b
  have := (hJ.2 o ho).1
  omega
theorem FOo_o {s s' : PF} {g g' : mH} {q : Nat} (hF : FOo s h) (hJ : SJ s) (hC : Cj (puS q) h g) (hR : ∀ a i, i ≠ s.1 → s'.2.1 a i = s.2.1 a i) (hO : s'.2.2 = s.1 :: s.2.2) (hC2 : Cj (opS s.2.2.length) g g') (h48 : gI g' 83 48 = iI ((s.2.2.length + 1 : Nat) : Int)) (h106 : gI g' 106 s.2.2.length = iI (koV (s'.2.1 0 s.1))) (h107 : gI g' 107 s.2.2.length = iI ((kpV s.2.1 s.1 + joV (s'.2.1 0 s.1) : Nat) : Int)) : FOo s' g' := by
  obtain ⟨a, b⟩ := hF
  refine ⟨by rw [hO]; exact h48, ?_⟩
  rw [hO]
  refine ⟨h106, ?_, opm_cg _ (fun k hk => ?_) (fun o ho x hx => hR 0 x ?_) b⟩
  · rw [kpV_cg (R := s.2.1) s.1 (fun x hx => hR 0 x (by omega))]
    exact h107
  · have e1 : opS s.2.2.length 106 k = false := by unfold opS smS; simp; omega
    have e2 : opS s.2.2.length 107 k = false := by unfold opS smS; simp; omega
    exact ⟨by rw [hC2.2.2.2 106 k e1, hC.2.2.2 106 k rfl], by rw [hC2.2.2.2 107 k e2, hC.2.2.2 107 k rfl]⟩
  · have := (hJ.2 o ho).1
    omega
def rdN (h : mH) (Q : mO → mH → Prop) (z : Nat → Int) (n : Nat) (r : (Nat × Nat) ⊕ (PF × Nat)) : Prop := (∀ g a, r = .inr a → Cj scM h g → gI g 83 10 = 0 → TM z n a.2 g → FOc a.1 g → FOo a.1 g → Q (.inl none) g) ∧ (∀ g w p, r = .inl (w, p) → Cj sfM h g → FM g w p → Q (.inl none) g)
end SCM3
