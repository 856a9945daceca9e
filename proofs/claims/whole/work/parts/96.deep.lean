section DEEP
variable {z : Nat → Int} {n : Nat}
theorem fltO_len {R : Nat → Nat → Int} : ∀ O : List Nat, (fltO R O).length ≤ O.length
  | [] => Nat.le_refl _
  | o :: O => by
    have := fltO_len (R := R) O
    rw [fltO_s]
    split
    · show (fltO R O).length + 1 ≤ O.length + 1
      omega
    · show (fltO R O).length ≤ O.length + 1
      omega
/-- never more than five repeated blocks around a step -/
def LN (s : PF) : Prop := ∀ i, i ≤ s.1 → (rpV s.2.1 i).length ≤ 5
theorem LN_w {s r : PF} {f : Nat} (hL : LN s) (h1 : r.1 ≤ s.1 + 1) (hV : ∀ x, x < s.1 → r.2.1 0 x = s.2.1 0 x) (hW : WO r) (hI : SI r f) : LN r := fun i hi => by
  by_cases c : i ≤ s.1
  · rw [rpV_cg i (fun x hx => hV x (by omega))]
    exact hL i c
  · have e : i = r.1 := by omega
    rw [e, hW.2.2.2.1]
    have := fltO_len (R := r.2.1) r.2.2
    have := hI.2.1
    omega
theorem rPie_vb {s : PF} {f : Nat} {r : PF × Nat} (hI : SI s f) (h : rPie z n s f = .inr r) : r.1.1 ≤ s.1 + 1 ∧ ∀ x, x < s.1 → r.1.2.1 0 x = s.2.1 0 x := by
  have act : rAct z n s f = .inr r → r.1.1 ≤ s.1 + 1 ∧ ∀ x, x < s.1 → r.1.2.1 0 x = s.2.1 0 x := fun h => by
    obtain ⟨v, _, e1, e2, _⟩ := rAct_f hI h
    exact ⟨by omega, fun x hx => e2 0 x (by omega)⟩
  unfold rPie at h
  split at h
  · exact act h
  · rename_i o O hO
    split at h
    · unfold rClo at h
      split at h
      · cases h
        refine ⟨Nat.le_refl _, fun x hx => ?_⟩
        simp only
        rw [upR_0 (by omega), upR_0 (by omega), upR_0 (by omega), adS_0 hx]
      · split at h
        · obtain ⟨e, _⟩ := rOpn_r h
          rw [e]
          refine ⟨Nat.le_refl _, fun x hx => ?_⟩
          simp only
          rw [upR_0 (by omega), adS_0 hx]
        · cases h
          refine ⟨by simp only; omega, fun x hx => ?_⟩
          simp only
          rw [upR_0 (by omega)]
    · exact act h
theorem scR_ln (hn : n ≤ 400) : ∀ (d : Nat) (s s' : PF) (f : Nat), n < f + d → f ≤ n → SI s f → SJ s → WO s → EC s f → LN s → scR z n d s f = .inr s' → LN s'
  | 0, s, s', f, hd, hf, _, _, _, _, _, _ => by omega
  | d + 1, s, s', f, hd, hf, hI, hJ, hW, hE, hL, h => by
    unfold scR at h
    split at h
    · split at h
      · cases h
        exact hL
      · cases h
    · obtain ⟨r, hr, h⟩ := bnd_r h
      have a := rPie_r hI (by omega) hr
      have b := rPie_w (by omega) hI hJ hW hE hr
      have c := rPie_vb hI hr
      exact scR_ln hn d r.1 s' r.2 (by omega) a.2.2 a.1 (rPie_j hI hJ hr) b.1 b.2 (LN_w hL c.1 c.2 b.1 a.1) h
theorem s0_LN : LN s0P := fun i hi => by
  have : i = 0 := Nat.le_zero.mp hi
  subst this
  exact Nat.zero_le _
theorem scR_l0 (hn : n ≤ 400) {s' : PF} {f : Nat} (hf : f ≤ n) (h : scR z n 401 s0P f = .inr s') : LN s' :=
  scR_ln hn 401 s0P s' f (by omega) hf ⟨by show 4 * (0 + 0) ≤ f; omega, by decide, fun o ho => by cases ho⟩ ⟨fun i hi => absurd hi (by show ¬ i < 0; omega), fun o ho => by cases ho⟩ ⟨fun i hi => absurd hi (by show ¬ i < 0; omega), fun i hi => absurd hi (by show ¬ i < 0; omega), fun i hi => absurd hi (by show ¬ i < 0; omega), rfl, trivial⟩ (by show 12 * 0 + 6 * 0 ≤ f; omega) s0_LN h
end DEEP
