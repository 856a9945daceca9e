section POINT
variable {G : GX} {h : mH} {Q : mO → mH → Prop}
def ptk (t a b : Int32) : Prop := (0 ≤ t.toInt ∧ t.toInt ≤ 9999) ∧ (-260 ≤ a.toInt ∧ a.toInt ≤ 260) ∧ (-260 ≤ b.toInt ∧ b.toInt ≤ 260)
theorem isPlace_iff {v : Int32} : fX10_isPlace v = 0 ↔ ¬ (-260 ≤ v.toInt ∧ v.toInt ≤ 260) := by
  unfold fX10_isPlace
  rw [show (-260 : Int32) = iI (-260) from by decide, show (260 : Int32) = iI 260 from by decide]
  simp only [i32_lt (c := -260) ⟨by decide, by decide⟩, i32_gt (c := 260) ⟨by decide, by decide⟩]
  repeat' split
  all_goals first | (constructor <;> intro z <;> first | omega | exact absurd z (by decide) | rfl) | skip
theorem mX10_point {n : Nat} {t a b : Int32} (hi : Iv h) (hn : gI h 33 3 = iI n) (h6 : n ≤ 6) (kR : ¬ (n < 6 ∧ ptk t a b) → Q (.inl (some (.int (-1)))) (pI h 82 3 (gI h 82 3 + 1)))
    (k : (n < 6 ∧ ptk t a b) → Q (.inl (some (.int (iI ((n + 1 : Nat) : Int))))) (pI (pI (pI (pI h 36 (3 * n) t) 36 (3 * n + 1) a) 36 (3 * n + 2) b) 33 3 (iI ((n + 1 : Nat) : Int)))) : WM G jX10_point [.ref 0, .int t, .int a, .int b] h Q := by
  have no : ¬ (n < 6 ∧ ptk t a b) → Vw G jX10_point 33 [some (.ref 0), none, none, none, none] [] h Q := fun z => by
    refine bX10_point_33 hi ?_
    rw [show (3 : Int32) = iI ((3 : Nat) : Int) from by decide]
    exact mX10_refuse hi (by omega) (bX10_point_38 (h := pI h 82 3 (gI h 82 3 + 1)) hi (kR z))
  have e1 : (3 : Int32) * iI (n : Int) = iI ((3 * n : Nat) : Int) := by rw [n_3, mu_n]
  have e2 : iI ((3 * n : Nat) : Int) + 1 = iI ((3 * n + 1 : Nat) : Int) := by rw [n_1, ad_n]
  have e3 : iI ((3 * n : Nat) : Int) + 2 = iI ((3 * n + 2 : Nat) : Int) := by rw [n_2, ad_n]
  have e4 : iI (n : Int) + 1 = iI ((n + 1 : Nat) : Int) := by rw [n_1, ad_n]
  have r : ∀ (g : mH) (j : Nat) (v : Int32), gI (pI g 36 j v) 33 3 = gI g 33 3 := fun g j v => by rw [gI_pI, if_neg (by omega)]
  have rr : ∀ (g : mH) (v : Int32), gI (pI g 33 3 v) 33 3 = v := fun g v => by rw [gI_pI, if_pos ⟨rfl, rfl⟩]
  refine eX10_point hi ?_
  simp only [rr, r, hn, e1, e2, e3, e4]
  rw [ix_n (n := 3 * n) (by omega), ix_n (n := 3 * n + 1) (by omega), ix_n (n := 3 * n + 2) (by omega)]
  refine ⟨fun c => no ?_, fun c0 => ⟨fun c => no ?_, fun c1 => ⟨fun c => no ?_, fun c2 => ⟨fun c3 => ?_, fun c => no ?_⟩⟩⟩⟩
  · rw [n_6, le_n (by omega) (by omega)] at c
    exact fun z => by have := z.1; omega
  · rw [isTick_iff] at c
    exact fun z => c z.2.1
  · rw [isPlace_iff] at c
    exact fun z => c z.2.2.1
  · rw [n_6, le_n (by omega) (by omega)] at c0
    rw [isTick_iff] at c1
    rw [isPlace_iff] at c2 c3
    exact ⟨in_n (by omega) (by omega), in_n (by omega) (by omega), in_n (by omega) (by omega), k ⟨by omega, Decidable.not_not.mp c1, Decidable.not_not.mp c2, Decidable.not_not.mp c3⟩⟩
  · rw [isPlace_iff] at c
    exact fun z => c z.2.2.2
theorem mX11_point {n : Nat} {t a b : Int32} (hi : Iv h) (hn : gI h 83 33 = iI n) (h6 : n ≤ 6) (kR : ¬ (n < 6 ∧ ptk t a b) → Q (.inl (some (.int (-1)))) (pI (pI h 83 0 0) 90 3 (gI h 90 3 + 1)))
    (k : (n < 6 ∧ ptk t a b) → Q (.inl (some (.int (iI ((n + 1 : Nat) : Int))))) (pI (pI (pI (pI (pI h 83 0 0) 99 (3 * n) t) 99 (3 * n + 1) a) 99 (3 * n + 2) b) 83 33 (iI ((n + 1 : Nat) : Int)))) : WM G jX11_point [.ref 83, .int t, .int a, .int b] h Q := by
  have hi0 : Iv (pI h 83 0 0) := hi
  have no : ¬ (n < 6 ∧ ptk t a b) → Vw G jX11_point 51 [some (.ref 83), none, none, none] [] (pI h 83 0 0) Q := fun z => by
    refine bX11_point_51 hi0 ?_
    rw [show (3 : Int32) = iI ((3 : Nat) : Int) from by decide]
    refine mX11_refuses hi0 (by omega) ?_
    rw [show gI (pI h 83 0 0) 90 3 = gI h 90 3 from by rw [gI_pI, if_neg (by omega)]]
    exact bX11_point_56 (h := pI (pI h 83 0 0) 90 3 (gI h 90 3 + 1)) hi (kR z)
  have e1 : (3 : Int32) * iI (n : Int) = iI ((3 * n : Nat) : Int) := by rw [n_3, mu_n]
  have e2 : iI ((3 * n : Nat) : Int) + 1 = iI ((3 * n + 1 : Nat) : Int) := by rw [n_1, ad_n]
  have e3 : iI ((3 * n : Nat) : Int) + 2 = iI ((3 * n + 2 : Nat) : Int) := by rw [n_2, ad_n]
  have e4 : iI (n : Int) + 1 = iI ((n + 1 : Nat) : Int) := by rw [n_1, ad_n]
  have hn0 : gI (pI h 83 0 0) 83 33 = iI n := by rw [gI_pI, if_neg (by omega)]; exact hn
  have r : ∀ (g : mH) (j : Nat) (v : Int32), gI (pI g 99 j v) 83 33 = gI g 83 33 := fun g j v => by rw [gI_pI, if_neg (by omega)]
  have rr : ∀ (g : mH) (v : Int32), gI (pI g 83 33 v) 83 33 = v := fun g v => by rw [gI_pI, if_pos ⟨rfl, rfl⟩]
  refine eX11_point hi ?_
  simp only [rr, r, hn0, e1, e2, e3, e4]
  rw [ix_n (n := 3 * n) (by omega), ix_n (n := 3 * n + 1) (by omega), ix_n (n := 3 * n + 2) (by omega)]
  have w1 := within_0 (v := t) (a := 0) (b := 9999) ⟨by decide, by decide⟩ ⟨by decide, by decide⟩
  have w2 := within_0 (v := a) (a := -260) (b := 260) ⟨by decide, by decide⟩ ⟨by decide, by decide⟩
  have w3 := within_0 (v := b) (a := -260) (b := 260) ⟨by decide, by decide⟩ ⟨by decide, by decide⟩
  refine ⟨fun c => no ?_, fun c0 => ⟨fun c => no ?_, fun c1 => ⟨fun c => no ?_, fun c2 => ⟨fun c3 => ?_, fun c => no ?_⟩⟩⟩⟩
  · rw [n_6, eq_n (by omega) (by omega)] at c
    exact fun z => by have := z.1; omega
  · exact fun z => w1.mp c z.2.1
  · exact fun z => w2.mp c z.2.2.1
  · rw [n_6, eq_n (by omega) (by omega)] at c0
    exact ⟨in_n (by omega) (by omega), in_n (by omega) (by omega), in_n (by omega) (by omega), k ⟨by omega, Decidable.not_not.mp (fun z => c1 (w1.mpr z)), Decidable.not_not.mp (fun z => c2 (w2.mpr z)), Decidable.not_not.mp (fun z => c3 (w3.mpr z))⟩⟩
  · exact fun z => w3.mp c z.2.2.2
/-- unpoint() -/
theorem mX10_unpoint {n : Nat} (hi : Iv h) (hn : gI h 33 3 = iI n) (h6 : n ≤ 6) (k0 : n = 0 → Q (.inl (some (.int (-1)))) h) (k : 0 < n → Q (.inl (some (.int (iI ((n - 1 : Nat) : Int))))) (pI h 33 3 (iI ((n - 1 : Nat) : Int)))) : WM G jX10_unpoint [.ref 0] h Q := by
  refine eX10_unpoint hi ?_
  rw [hn]
  refine ⟨fun c => ?_, fun c => ?_⟩
  · rw [n_0, eq_n (by omega) (by omega)] at c
    rw [n_1, su_n (by omega), gI_pI, if_pos ⟨rfl, rfl⟩]
    exact k (by omega)
  · rw [n_0, eq_n (by omega) (by omega)] at c
    exact k0 c
theorem mX11_unpoint {n : Nat} (hi : Iv h) (hn : gI h 83 33 = iI n) (h6 : n ≤ 6) (k0 : n = 0 → Q (.inl (some (.int (-1)))) (pI h 83 0 0)) (k : 0 < n → Q (.inl (some (.int (iI ((n - 1 : Nat) : Int))))) (pI (pI h 83 0 0) 83 33 (iI ((n - 1 : Nat) : Int)))) : WM G jX11_unpoint [.ref 83] h Q := by
  have hn0 : gI (pI h 83 0 0) 83 33 = iI n := by rw [gI_pI, if_neg (by omega)]; exact hn
  refine eX11_unpoint hi ?_
  rw [hn0]
  refine ⟨fun c => ?_, fun c => ?_⟩
  · rw [n_0, eq_n (by omega) (by omega)] at c
    rw [n_1, su_n (by omega), gI_pI, if_pos ⟨rfl, rfl⟩]
    exact k (by omega)
  · rw [n_0, eq_n (by omega) (by omega)] at c
    exact k0 c
/-- birthday(day), forget() -/
def dok (v : Int32) : Prop := 0 ≤ v.toInt ∧ v.toInt ≤ 364
theorem mX10_birthday {n : Nat} {v : Int32} (hi : Iv h) (hn : gI h 33 5 = iI n) (h6 : n ≤ 10) (kR : ¬ (n < 10 ∧ dok v) → Q (.inl (some (.int (-1)))) (pI h 82 4 (gI h 82 4 + 1)))
    (k : (n < 10 ∧ dok v) → Q (.inl (some (.int (iI ((n + 1 : Nat) : Int))))) (pI (pI (pI h 37 n v) 33 5 (iI ((n + 1 : Nat) : Int))) 0 16 (gI h 0 16 + 1))) : WM G jX10_birthday [.ref 0, .int v] h Q := by
  have no : ¬ (n < 10 ∧ dok v) → Vw G jX10_birthday 23 [some (.ref 0), none] [] h Q := fun z => by
    refine bX10_birthday_23 hi ?_
    rw [show (4 : Int32) = iI ((4 : Nat) : Int) from by decide]
    exact mX10_refuse hi (by omega) (bX10_birthday_28 (h := pI h 82 4 (gI h 82 4 + 1)) hi (kR z))
  have e4 : iI (n : Int) + 1 = iI ((n + 1 : Nat) : Int) := by rw [n_1, ad_n]
  have r : ∀ (g : mH) (j : Nat) (v : Int32), gI (pI g 37 j v) 33 5 = gI g 33 5 := fun g j v => by rw [gI_pI, if_neg (by omega)]
  have r1 : ∀ (g : mH) (j : Nat) (v : Int32), gI (pI g 37 j v) 0 16 = gI g 0 16 := fun g j v => by rw [gI_pI, if_neg (by omega)]
  have r2 : ∀ (g : mH) (v : Int32), gI (pI g 33 5 v) 0 16 = gI g 0 16 := fun g v => by rw [gI_pI, if_neg (by omega)]
  have r3 : ∀ (g : mH) (v : Int32), gI (pI g 0 16 v) 33 5 = gI g 33 5 := fun g v => by rw [gI_pI, if_neg (by omega)]
  have rr : ∀ (g : mH) (v : Int32), gI (pI g 33 5 v) 33 5 = v := fun g v => by rw [gI_pI, if_pos ⟨rfl, rfl⟩]
  have l0 : v < 0 ↔ v.toInt < 0 := by rw [i32_0, i32_lt ⟨by decide, by decide⟩]
  have l1 : v ≤ 364 ↔ v.toInt ≤ 364 := by rw [show (364 : Int32) = iI 364 from by decide, i32_le ⟨by decide, by decide⟩]
  refine eX10_birthday hi ?_
  simp only [r1, r2, r3, rr, r, hn, e4]
  rw [ix_n (n := n) (by omega)]
  refine ⟨fun c => no ?_, fun c0 => ⟨fun c => no ?_, fun c1 => ⟨fun c2 => ?_, fun c => no ?_⟩⟩⟩
  · rw [n_10, le_n (by omega) (by omega)] at c
    exact fun z => by have := z.1; omega
  · rw [l0] at c
    exact fun z => by have := z.2.1; omega
  · rw [n_10, le_n (by omega) (by omega)] at c0
    rw [l0] at c1
    rw [l1] at c2
    exact ⟨in_n (by omega) (by omega), k ⟨by omega, by omega, c2⟩⟩
  · rw [l1] at c
    exact fun z => c z.2.2
theorem mX11_birthday {n : Nat} {v : Int32} (hi : Iv h) (hn : gI h 83 36 = iI n) (h6 : n ≤ 10) (kR : ¬ (n < 10 ∧ dok v) → Q (.inl (some (.int (-1)))) (pI (pI h 83 0 0) 90 4 (gI h 90 4 + 1)))
    (k : (n < 10 ∧ dok v) → Q (.inl (some (.int (iI ((n + 1 : Nat) : Int))))) (pI (pI (pI h 83 0 0) 101 n v) 83 36 (iI ((n + 1 : Nat) : Int)))) : WM G jX11_birthday [.ref 83, .int v] h Q := by
  have hi0 : Iv (pI h 83 0 0) := hi
  have no : ¬ (n < 10 ∧ dok v) → Vw G jX11_birthday 25 [some (.ref 83), none] [] (pI h 83 0 0) Q := fun z => by
    refine bX11_birthday_25 hi0 ?_
    rw [show (4 : Int32) = iI ((4 : Nat) : Int) from by decide]
    refine mX11_refuses hi0 (by omega) ?_
    rw [show gI (pI h 83 0 0) 90 4 = gI h 90 4 from by rw [gI_pI, if_neg (by omega)]]
    exact bX11_birthday_30 (h := pI (pI h 83 0 0) 90 4 (gI h 90 4 + 1)) hi (kR z)
  have e4 : iI (n : Int) + 1 = iI ((n + 1 : Nat) : Int) := by rw [n_1, ad_n]
  have hn0 : gI (pI h 83 0 0) 83 36 = iI n := by rw [gI_pI, if_neg (by omega)]; exact hn
  have r : ∀ (g : mH) (j : Nat) (v : Int32), gI (pI g 101 j v) 83 36 = gI g 83 36 := fun g j v => by rw [gI_pI, if_neg (by omega)]
  have rr : ∀ (g : mH) (v : Int32), gI (pI g 83 36 v) 83 36 = v := fun g v => by rw [gI_pI, if_pos ⟨rfl, rfl⟩]
  refine eX11_birthday hi ?_
  simp only [rr, r, hn0, e4]
  rw [ix_n (n := n) (by omega)]
  have w1 := within_0 (v := v) (a := 0) (b := 364) ⟨by decide, by decide⟩ ⟨by decide, by decide⟩
  refine ⟨fun c => no ?_, fun c0 => ⟨fun c1 => ?_, fun c => no ?_⟩⟩
  · rw [n_10, eq_n (by omega) (by omega)] at c
    exact fun z => by have := z.1; omega
  · rw [n_10, eq_n (by omega) (by omega)] at c0
    exact ⟨in_n (by omega) (by omega), k ⟨by omega, Classical.not_not.mp (fun z => c1 (w1.mpr z))⟩⟩
  · exact fun z => w1.mp c z.2
theorem mX10_forget (hi : Iv h) (k : Q (.inl (some (.int (gI h 33 5)))) (pI (pI h 33 5 0) 0 16 (gI h 0 16 + 1))) : WM G jX10_forget [.ref 0] h Q := by
  refine eX10_forget hi ?_
  rw [show gI (pI h 33 5 0) 0 16 = gI h 0 16 from by rw [gI_pI, if_neg (by omega)]]
  exact k
theorem mX11_forget (hi : Iv h) (k : Q (.inl (some (.int (gI h 83 36)))) (pI (pI h 83 0 0) 83 36 0)) : WM G jX11_forget [.ref 83] h Q := by
  refine eX11_forget hi ?_
  rw [show gI (pI h 83 0 0) 83 36 = gI h 83 36 from by rw [gI_pI, if_neg (by omega)]]
  exact k
theorem mX11_fault (hi : Iv h) (k : Q (.inl (some (.int (gI h 83 11)))) (pI h 83 0 0)) : WM G jX11_fault [.ref 83] h Q := by
  refine eX11_fault hi ?_
  rw [show gI (pI h 83 0 0) 83 11 = gI h 83 11 from by rw [gI_pI, if_neg (by omega)]]
  exact k
/-- drawing(i) -/
def dwk (n : Int32) (v : Int32) : Prop := -1 ≤ v.toInt ∧ v.toInt < n.toInt
def dwV (h : mH) (a : Nat) (t v : Int32) : Int32 := if v = -1 then t else gI h a v.toInt.toNat
theorem mX10_drawing {v : Int32} (hi : Iv h) (hl : (gI h 75 1).toInt ≤ 8) (kN : (gI h 75 1 = 0 ∨ ¬ dwk (gI h 75 1) v) → Th eN h Q) (k : gI h 75 1 ≠ 0 → dwk (gI h 75 1) v → Q (.inl (some (.int (dwV h 76 (gI h 75 2) v)))) h) : WM G jX10_drawing [.ref 0, .int v] h Q := by
  have l0 : v < (-1) ↔ v.toInt < -1 := by rw [m1_iI, i32_lt ⟨by decide, by decide⟩]
  have hlt : v < gI h 75 1 ↔ v.toInt < (gI h 75 1).toInt := by rw [← iI_lt (r31_self _) (r31_self _), iI_self, iI_self]
  refine eX10_drawing hi ⟨fun c => bX10_drawing_26 hi (kN (.inl c)), fun c0 => ⟨fun c => bX10_drawing_26 hi (kN (.inr (fun z => ?_))), fun c1 => ⟨fun c2 => ?_, fun c => bX10_drawing_26 hi (kN (.inr (fun z => ?_)))⟩⟩⟩
  · rw [l0] at c
    have := z.1; omega
  · rw [l0] at c1
    have k' := k c0 ⟨by omega, hlt.mp c2⟩
    rw [hlt] at c2
    unfold dwV at k'
    refine ⟨fun c => ?_, fun c => ?_⟩
    · rw [if_neg c] at k'
      have hm : v.toInt ≠ -1 := fun e => c (by rw [m1_iI, ← e, iI_self])
      refine ⟨?_, k'⟩
      rw [vp_in_iff]
      omega
    · rw [if_pos c] at k'
      exact k'
  · rw [hlt] at c
    exact c z.2
theorem mX11_drawing {v : Int32} (hi : Iv h) (hl : (gI h 83 40).toInt ≤ 8) (kN : (gI h 83 40 = -1 ∨ ¬ dwk (gI h 83 40) v) → Q (.inl (some (.int 0))) (pI (pI h 83 0 0) 83 0 1)) (k : gI h 83 40 ≠ -1 → dwk (gI h 83 40) v → Q (.inl (some (.int (dwV h 103 (gI h 83 41) v)))) (pI h 83 0 0)) : WM G jX11_drawing [.ref 83, .int v] h Q := by
  have hi0 : Iv (pI h 83 0 0) := hi
  have h00 : gI (pI h 83 0 0) 83 0 = 0 := by rw [gI_pI]; rfl
  have e40 : gI (pI h 83 0 0) 83 40 = gI h 83 40 := by rw [gI_pI, if_neg (by omega)]
  have e41 : gI (pI h 83 0 0) 83 41 = gI h 83 41 := by rw [gI_pI, if_neg (by omega)]
  have e03 : ∀ j, gI (pI h 83 0 0) 103 j = gI h 103 j := fun j => by rw [gI_pI, if_neg (by omega)]
  have l0 : v < (-1) ↔ v.toInt < -1 := by rw [m1_iI, i32_lt ⟨by decide, by decide⟩]
  have hle : gI h 83 40 ≤ v ↔ (gI h 83 40).toInt ≤ v.toInt := by rw [← iI_le (r31_self _) (r31_self _), iI_self, iI_self]
  have no : (gI h 83 40 = -1 ∨ ¬ dwk (gI h 83 40) v) → WM G jX11_right [.ref 83, .int 0, .int 1] (pI h 83 0 0) (Aft G jX11_drawing 33 [some (.ref 83), some (.int v)] [] Q) := fun z => mX11_right0 hi0 h00 (by decide) (bX11_drawing_36 (h := pI (pI h 83 0 0) 83 0 1) hi ⟨fun z => absurd rfl z, fun _ => kN z⟩)
  refine eX11_drawing hi ?_
  rw [e40]
  refine ⟨fun c => no (.inl c), fun c0 => ⟨fun c => no (.inr (fun z => ?_)), fun c1 => ⟨fun c => no (.inr (fun z => ?_)), fun c2 => ?_⟩⟩⟩
  · rw [l0] at c
    have := z.1; omega
  · rw [hle] at c
    have := z.2; omega
  · rw [l0] at c1
    rw [hle] at c2
    have k' := k c0 ⟨by omega, by omega⟩
    unfold dwV at k'
    refine mX11_right1 hi0 h00 (by decide) (bX11_drawing_36 hi0 ⟨fun _ => ⟨fun c => ?_, fun c => ?_⟩, fun z => absurd z (by decide)⟩)
    · rw [if_neg c] at k'
      have hm : v.toInt ≠ -1 := fun e => c (by rw [m1_iI, ← e, iI_self])
      refine ⟨?_, ?_⟩
      · rw [vp_in_iff]
        omega
      · rw [e03]
        exact k'
    · rw [if_pos c] at k'
      rw [e41]
      exact k'
end POINT
