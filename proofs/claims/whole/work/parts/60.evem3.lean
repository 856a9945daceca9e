section EVEM3
variable {G : GX} {h : mH} {Q : mO → mH → Prop}
def mvc (x : Nat) : Int := if x = 8 then -1 else if x = 9 then 8 else (x : Int)
theorem nab (a b : Int) : (a - b).natAbs = (b - a).natAbs := by omega
theorem mX11_moved {np x y : Nat} (hi : Iv h) (h8 : np ≤ 8) (h4 : pnR h 87 0) (hP : ∀ i, i < np → pnR h 97 (12 * i)) (hy : y < np) (hx : x < np ∨ x = 8 ∨ x = 9) (k : Q (.inl (some (.int (iI (dE h 87 97 np x y : Nat))))) h) : WM G jX11_moved [.ref 83, .int (iI (mvc x)), .int (iI y)] h Q := by
  refine eX11_moved hi ?_
  rw [n_0]
  have e12 : ∀ j p : Nat, (12 : Int32) * iI (j : Int) + iI (p : Int) = iI ((12 * j + p : Nat) : Int) := fun j p => by rw [n_12, mu_n, ad_n]
  have ry : ∀ p, p < 4 → 0 ≤ rwI h 97 (12 * y) p ∧ rwI h 97 (12 * y) p ≤ 9 := fun p hp => hP y hy p hp
  have gy : ∀ p, gI h 97 (12 * y + p) = iI (rwI h 97 (12 * y) p) := fun p => (iI_self _).symm
  have loop : ∀ (u : Nat → Int), (∀ p, p < 4 → 0 ≤ u p ∧ u p ≤ 9) → d4 u (rwI h 97 (12 * y)) = dE h 87 97 np x y → (∀ (p : Nat) (v3 : Int32), p < 4 → Vw G jX11_moved 5 [some (.ref 83), some (.int (iI (mvc x))), some (.int (iI y)), some (.int (v3 + iI (((rwI h 97 (12 * y) p - u p).natAbs : Nat) : Int))), some (.int (iI (p : Int) + 1))] [] h Q → Vw G jX11_moved 5 [some (.ref 83), some (.int (iI (mvc x))), some (.int (iI y)), some (.int v3), some (.int (iI p))] [] h Q) → ∀ (d p : Nat), p + d = 4 → Vw G jX11_moved 5 [some (.ref 83), some (.int (iI (mvc x))), some (.int (iI y)), some (.int (iI (d4n u (rwI h 97 (12 * y)) p : Nat))), some (.int (iI p))] [] h Q := by
    intro u hu hd step d
    induction d with
    | zero =>
      intro p hp
      have : p = 4 := by omega
      subst this
      refine bX11_moved_5 hi ⟨fun _ => ?_, fun z => absurd (by decide) z⟩
      rw [d4n_4, hd]
      exact k
    | succ d ih =>
      intro p hp
      refine step p _ (by omega) ?_
      rw [n_1, ad_n, ad_n, nab]
      exact ih (p + 1) (by omega)
  have nle : ∀ p : Nat, p < 4 → ¬ (4 : Int32) ≤ iI (p : Int) := fun p hp z => by
    rw [n_4, le_n (by omega) (by omega)] at z
    omega
  have mE : iI (mvc x) = (-1) ↔ x = 8 := by
    rw [m1_iI]
    unfold mvc
    split
    · exact ⟨fun _ => by assumption, fun _ => rfl⟩
    · split
      · exact ⟨fun z => absurd z (by decide), fun z => by omega⟩
      · rw [iI_eq ⟨by omega, by omega⟩ ⟨by decide, by decide⟩]
        omega
  have mF : x ≠ 8 → (iI (mvc x) = 8 ↔ x = 9) := fun hx8 => by
    unfold mvc
    rw [if_neg hx8]
    split
    · exact ⟨fun _ => by assumption, fun _ => by decide⟩
    · rw [n_8, iI_eq ⟨by omega, by omega⟩ ⟨by omega, by omega⟩]
      omega
  by_cases c8 : x = 8
  · refine loop (rwI h 87 0) (fun p hp => h4 p hp) (by unfold dE; rw [if_pos hy, if_pos c8]) (fun p v3 hp nx => ?_) 4 0 (by omega)
    have r1 := ry p hp
    have r2 : 0 ≤ rwI h 87 0 p ∧ rwI h 87 0 p ≤ 9 := h4 p hp
    refine bX11_moved_5 hi ⟨fun z => absurd z (nle p hp), fun _ => ?_⟩
    rw [e12, ix_n (by omega), ix_n (by omega), gy]
    refine ⟨in_n (by omega) (by omega), fun z => absurd (mE.mpr c8) z, fun _ => ⟨in_n (by omega) (by omega), ?_⟩⟩
    rw [show gI h 87 p = iI (rwI h 87 0 p) from by unfold rwI; rw [Nat.zero_add, iI_self], iI_sub, size_iI (by omega) (by omega)]
    exact nx
  · by_cases c9 : x = 9
    · refine loop (fun _ => 0) (fun p hp => ⟨Int.le_refl _, by omega⟩) (by unfold dE; rw [if_pos hy, if_neg c8, if_pos c9]) (fun p v3 hp nx => ?_) 4 0 (by omega)
      have r1 := ry p hp
      refine bX11_moved_5 hi ⟨fun z => absurd z (nle p hp), fun _ => ?_⟩
      rw [e12, ix_n (by omega), gy]
      refine ⟨in_n (by omega) (by omega), fun _ => ⟨fun z => absurd ((mF c8).mpr c9) z, fun _ => ?_⟩, fun z => absurd (mE.mp z) c8⟩
      rw [i32_0, iI_sub, size_iI (by omega) (by omega)]
      exact nx
    · have hxn : x < np := by omega
      have hmx : mvc x = (x : Int) := by unfold mvc; rw [if_neg c8, if_neg c9]
      refine loop (rwI h 97 (12 * x)) (fun p hp => hP x hxn p hp) (by unfold dE; rw [if_pos hy, if_neg c8, if_neg c9, if_pos hxn]) (fun p v3 hp nx => ?_) 4 0 (by omega)
      have r1 := ry p hp
      have r2 : 0 ≤ rwI h 97 (12 * x) p ∧ rwI h 97 (12 * x) p ≤ 9 := hP x hxn p hp
      refine bX11_moved_5 hi ⟨fun z => absurd z (nle p hp), fun _ => ?_⟩
      rw [e12, ix_n (by omega), gy]
      refine ⟨in_n (by omega) (by omega), fun _ => ⟨fun z => ?_, fun z => absurd ((mF c8).mp z) c9⟩, fun z => absurd (mE.mp z) c8⟩
      rw [hmx] at nx ⊢
      rw [e12, ix_n (by omega), show gI h 97 (12 * x + p) = iI (rwI h 97 (12 * x) p) from (iI_self _).symm, iI_sub, size_iI (by omega) (by omega)]
      exact ⟨in_n (by omega) (by omega), nx⟩
theorem mX11_allMoved {np n b : Nat} {f : Nat → Nat} (hi : Iv h) (h8 : np ≤ 8) (hn8 : n ≤ 8) (h4 : pnR h 87 0) (hP : ∀ i, i < np → pnR h 97 (12 * i)) (hf : ∀ i, i < n → gI h 102 i = iI (f i : Nat) ∧ f i < np) (hb : b < n) (k : Q (.inl (some (.int (iI (Cp (dE h 87 97 np) f b n : Nat))))) h) : WM G jX11_allMoved [.ref 83, .int (iI n), .int (iI b)] h Q := by
  have hD := dE_b (a4 := 87) (aP := 97) (np := np) h4 hP
  refine eX11_allMoved hi ?_
  rw [n_0]
  have loop : ∀ (d i : Nat), i + d = n → Vw G jX11_allMoved 5 [some (.ref 83), some (.int (iI n)), some (.int (iI b)), some (.int (iI (Cp (dE h 87 97 np) f b i : Nat))), some (.int (iI i))] [] h Q := by
    intro d
    induction d with
    | zero =>
      intro i hin
      have : i = n := by omega
      subst this
      exact bX11_allMoved_5 hi ⟨fun _ => k, fun z => absurd (Int32.le_refl _) z⟩
    | succ d ih =>
      intro i hin
      have hil : i < n := by omega
      have e1 : iI (i : Int) + 1 = iI ((i + 1 : Nat) : Int) := by rw [n_1, ad_n]
      obtain ⟨g1, g2⟩ := hf i hil
      have nx := ih (i + 1) (by omega)
      have cb := Cp_b hD f b i
      have call : ∀ x v1, (x < np ∨ x = 8 ∨ x = 9) → frm f b i = x → v1 = iI (mvc x) → WM G jX11_moved [.ref 83, .int v1, .int (iI (f i : Nat))] h (Aft G jX11_allMoved 49 [some (.ref 83), some (.int (iI n)), some (.int (iI b)), none, some (.int (iI i))] [.int (iI (Cp (dE h 87 97 np) f b i : Nat))] Q) := fun x v1 hx hfx hv => by
        rw [hv]
        refine mX11_moved hi h8 h4 hP g2 hx (bX11_allMoved_52 hi ?_)
        rw [ad_n, e1]
        have hC : Cp (dE h 87 97 np) f b (i + 1) = Cp (dE h 87 97 np) f b i + dE h 87 97 np x (f i) := by
          conv => lhs; unfold Cp
          rw [hfx]
        rw [hC] at nx
        exact nx
      refine bX11_allMoved_5 hi ⟨fun z => ?_, fun _ => ?_⟩
      · rw [le_n (by omega) (by omega)] at z
        omega
      · rw [ix_n (by omega), g1]
        refine ⟨fun z => ⟨fun y => ?_, fun y => ⟨in_n (by omega) (by omega), call 9 _ (.inr (.inr rfl)) ?_ (by decide)⟩⟩, fun z => ⟨in_n (by omega) (by omega), call 8 _ (.inr (.inl rfl)) ?_ (by decide)⟩⟩
        · rw [n_0, eq_n (by omega) (by omega)] at z
          rw [eq_n (by omega) (by omega)] at y
          have g3 := hf (i - 1) (by omega)
          rw [n_1, su_n (by omega), ix_n (by omega), g3.1]
          refine ⟨in_n (by omega) (by omega), in_n (by omega) (by omega), call (f (i - 1)) _ (.inl g3.2) ?_ ?_⟩
          · unfold frm prv
            rw [if_neg (by omega), if_neg z]
          · unfold mvc
            rw [if_neg (by omega), if_neg (by omega)]
        · rw [n_0, eq_n (by omega) (by omega)] at z
          rw [eq_n (by omega) (by omega)] at y
          unfold frm
          rw [if_pos (by omega)]
        · rw [n_0, eq_n (by omega) (by omega)] at z
          unfold frm prv
          rw [if_neg (by omega), if_pos z]
  exact loop n 0 (by omega)
end EVEM3
