section CART4
variable {G : GX} {h : mH} {Q : mO → mH → Prop}
theorem tkF_cg {S : Nat → Bool} {h h' : mH} (hS : Sm S h h') {a : Nat} (ea : S a = false) : tkF h' a = tkF h a := by
  funext i
  unfold tkF
  rw [hS.gI ea]
theorem wyM_cg {S : Nat → Bool} {h h' : mH} (hS : Sm S h h') (e1 : S 84 = false) (e2 : S 85 = false) (e3 : S 86 = false) (e4 : S 87 = false) (e5 : S 99 = false) : wyM h' = wyM h := by
  funext i ax
  unfold wyM
  rw [hS.gI e5, tkF_cg hS e5, swM_cg hS e1 e2 e3 e4]
theorem PtR_cg {S : Nat → Bool} {h h' : mH} (hS : Sm S h h') {a n : Nat} (ea : S a = false) (hp : PtR h a n) : PtR h' a n := ⟨hp.1, fun i hi => by
  obtain ⟨h1, h2⟩ := hp.2 i hi
  refine ⟨by rw [hS.gI ea]; exact h1, fun ax hax => ?_⟩
  rw [hS.gI ea]
  exact h2 ax hax⟩
/-- the least tick from c on -/
def lst (p : Nat → Option Nat) (c : Nat) (l : Int) : Prop := (l = -1 ∧ ∀ j, c ≤ j → j < 1000 → p j = none) ∨ ∃ x : Nat, l = x ∧ c ≤ x ∧ x < 1000 ∧ p x ≠ none ∧ ∀ j, c ≤ j → j < x → p j = none
theorem cnt_0 {f : Nat → Bool} : ∀ n, (∀ j, j < n → f j = false) → cnt f n = 0
  | 0, _ => rfl
  | n + 1, e => by
    unfold cnt
    rw [cnt_0 n (fun j hj => e j (by omega)), e n (by omega)]
    rfl
theorem lst_0 {p : Nat → Option Nat} {l : Int} (hl : lst p 0 l) : l = oR (frs p 1000) := by
  rcases hl with ⟨e, hall⟩ | ⟨x, e, _, hx, hpx, hall⟩
  · have : frs p 1000 = none := (frs_cnt 1000).mpr (cnt_0 1000 (fun j hj => by rw [hall j (by omega) hj]; rfl))
    rw [this]; exact e
  · cases hf : frs p 1000 with
    | none =>
      have h0 := (frs_cnt 1000).mp hf
      have : ∀ n, x < n → cnt (fun c => (p c).isSome) n ≠ 0 := by
        intro n
        induction n with
        | zero => intro hn; omega
        | succ n ih =>
          intro hn h0
          unfold cnt at h0
          by_cases hxn : x = n
          · subst hxn
            cases hp : p x with
            | none => exact hpx hp
            | some y => rw [hp] at h0; exact absurd h0 (by simp)
          · exact ih (by omega) (by omega)
      exact absurd h0 (this 1000 hx)
    | some cm =>
      obtain ⟨c, m⟩ := cm
      obtain ⟨g1, g2, g3⟩ := frs_b _ _ _ hf
      have hcx : c = x := by
        rcases Nat.lt_trichotomy c x with hlt | heq | hgt
        · have := hall c (by omega) hlt
          rw [g2] at this; cases this
        · exact heq
        · exact absurd (g3 x hgt) hpx
      rw [e, ← hcx]; rfl
theorem mX11_cart {n : Nat} {w : Int32} (hi : Iv h) (hm : MR h 87 0) (hp : PtR h 99 n) (hn : gI h 83 33 = iI n) (kN : ¬ (0 ≤ w.toInt ∧ w.toInt ≤ 3) → Q (.inl (some (.int 0))) (pI (pI h 83 0 0) 83 0 1))
    (k : (0 ≤ w.toInt ∧ w.toInt ≤ 3) → Q (.inl (some (.int (iI (caV (shw (tkF h 99) (wyM h) n) (wyM h) w))))) (pI h 83 0 0)) : WM G jX11_cart [.ref 83, .int w] h Q := by
  have hi0 : Iv (pI h 83 0 0) := hi
  have h00 : gI (pI h 83 0 0) 83 0 = 0 := by rw [gI_pI]; rfl
  have hS := Sm_ts h 0
  have hm0 := MR_cg hS (a := 87) (f := 0) rfl rfl rfl rfl hm
  have hp0 := PtR_cg hS (a := 99) rfl hp
  have hn0 : gI (pI h 83 0 0) 83 33 = iI n := by rw [gI_pI, if_neg (by omega)]; exact hn
  have et : tkF (pI h 83 0 0) 99 = tkF h 99 := tkF_cg hS rfl
  have ew : wyM (pI h 83 0 0) = wyM h := wyM_cg hS rfl rfl rfl rfl rfl
  refine eX11_cart hi ?_
  rw [show fX11_within w 0 3 = bI (0 ≤ w.toInt ∧ w.toInt ≤ 3) from within_b (a := 0) (b := 3) ⟨by decide, by decide⟩ ⟨by decide, by decide⟩]
  refine mX11_right hi0 h00 (by decide) (fun hw => ?_) (fun hw => bX11_cart_16 (h := pI (pI h 83 0 0) 83 0 1) hi ⟨fun z => absurd rfl z, fun _ => kN hw⟩)
  refine bX11_cart_16 hi0 ⟨fun _ => ?_, fun z => absurd z (by decide)⟩
  have k' := k hw
  unfold caV at k'
  obtain ⟨p, hpp⟩ : ∃ p, p = shw (tkF h 99) (wyM h) n := ⟨_, rfl⟩
  rw [← hpp] at k'
  have shows : ∀ {c : Nat} {R : mO → mH → Prop}, c ≤ 999 → R (.inl (some (.int (iI (oI (p c)))))) (pI h 83 0 0) → WM G jX11_shows [.ref 83, .int (iI c)] (pI h 83 0 0) R := fun hc kk => mX11_shows hi0 hm0 hp0 hn0 hc (by rw [et, ew, ← hpp]; exact kk)
  have pb : ∀ c q, p c = some q → q < n := by
    intro c q hpc
    rw [hpp] at hpc
    unfold shw at hpc
    split at hpc
    · rename_i m' hm'
      split at hpc
      · cases hpc; exact sho_b _ _ hm'
      · cases hpc
    · cases hpc
  have hn6 := hp.1
  have e0 : w = 0 ↔ w.toInt = 0 := by rw [i32_0, i32_eq ⟨by decide, by decide⟩]
  have e1 : w = 1 ↔ w.toInt = 1 := by rw [show (1 : Int32) = iI 1 from by decide, i32_eq ⟨by decide, by decide⟩]
  have e2 : w = 2 ↔ w.toInt = 2 := by rw [show (2 : Int32) = iI 2 from by decide, i32_eq ⟨by decide, by decide⟩]
  have g2 : (2 : Int32) ≤ w ↔ 2 ≤ w.toInt := by rw [show (2 : Int32) = iI 2 from by decide, i32_ge ⟨by decide, by decide⟩]
  have loop : ∀ c : Nat, c ≤ 1000 → ∀ (a : Nat) (l : Int), a + cnt (fun c => (p c).isSome) c = cnt (fun c => (p c).isSome) 1000 → a ≤ 1000 → lst p c l → Vw G jX11_cart 30 [some (.ref 83), some (.int w), some (.int (iI a)), some (.int (iI l)), some (.int (iI ((c : Int) - 1)))] [] (pI h 83 0 0) Q := by
    intro c
    induction c with
    | zero =>
      intro _ a l ha ha2 hl
      have hle := lst_0 hl
      have hac : a = cnt (fun c => (p c).isSome) 1000 := by rw [← ha]; rfl
      refine bX11_cart_30 hi0 ⟨fun _ => ⟨fun z => ?_, fun z => ⟨fun z1 => ?_, fun z1 => ?_⟩⟩, fun z => absurd (by decide) z⟩
      · rw [g2] at z
        rw [if_neg (by rw [e0]; omega), if_neg (by rw [e1]; omega)] at k'
        cases hf : frs p 1000 with
        | none =>
          rw [hf] at hle k'
          rw [hle]
          refine ⟨fun y => absurd rfl y, fun _ => bX11_cart_96 hi0 ?_⟩
          rw [show (if w = 2 then oW (wyM h) 0 none else oW (wyM h) 1 none) = (0 : Int) from by split <;> rfl] at k'
          exact k'
        | some cm =>
          obtain ⟨c, m⟩ := cm
          obtain ⟨f1, f2, f3⟩ := frs_b _ _ _ hf
          have hmn := pb c m f2
          rw [hf] at hle k'
          rw [hle]
          refine ⟨fun _ => shows (c := c) (by omega) ?_, fun y => ?_⟩
          · rw [f2]
            refine bX11_cart_90 hi0 ?_
            have fin : ∀ ax : Nat, ax < 2 → w - 2 = iI (ax : Int) → (if w = 2 then oW (wyM h) 0 (some (c, m)) else oW (wyM h) 1 (some (c, m))) = wyM h m ax → WM G jX11_wayOf [.ref 83, .int (iI (m : Int)), .int (w - 2)] (pI h 83 0 0) (Aft G jX11_cart 93 [none, none, none, none, none] [] Q) := by
              intro ax hax hw2 hif
              rw [hw2]
              refine mX11_wayOf hi0 hm0 hp0 hmn hax (bX11_cart_96 hi0 ?_)
              rw [ew, ← hif]
              exact k'
            by_cases h2 : w = 2
            · exact fin 0 (by omega) (by rw [h2]; decide) (by rw [if_pos h2]; rfl)
            · have h3 : w.toInt = 3 := by rw [e2] at h2; omega
              have hw3 : w = 3 := by rw [show (3 : Int32) = iI 3 from by decide, i32_eq ⟨by decide, by decide⟩]; exact h3
              exact fin 1 (by omega) (by rw [hw3]; decide) (by rw [if_neg h2]; rfl)
          · rw [m1_iI, show oR (some (c, m)) = (c : Int) from rfl, iI_eq ⟨by omega, by omega⟩ ⟨by decide, by decide⟩] at y
            omega
      · rw [g2] at z
        rw [e0] at z1
        rw [if_neg (by rw [e0]; exact z1), if_pos (by rw [e1]; omega)] at k'
        rw [hle]
        exact k'
      · rw [if_pos z1] at k'
        rw [hac]
        exact k'
    | succ c ih =>
      intro hc a l ha ha2 hl
      have hci : (((c + 1 : Nat) : Int) - 1) = (c : Int) := by omega
      rw [hci]
      refine bX11_cart_30 hi0 ⟨fun z => ?_, fun _ => shows (by omega) (bX11_cart_41 hi0 ?_)⟩
      · rw [i32_0, iI_lt ⟨by omega, by omega⟩ ⟨by decide, by decide⟩] at z
        omega
      have em : iI (c : Int) + (-1) = iI ((c : Int) - 1) := by rw [m1_iI, iI_add]; congr 1
      have hcu : cnt (fun c => (p c).isSome) (c + 1) = cnt (fun c => (p c).isSome) c + (if (p c).isSome then 1 else 0) := rfl
      rw [hcu] at ha
      cases hpc : p c with
      | none =>
        refine ⟨fun z => absurd rfl z, fun _ => bX11_cart_54 hi0 ?_⟩
        rw [em]
        rw [hpc] at ha
        refine ih (by omega) a l (by simpa using ha) ha2 ?_
        rcases hl with ⟨e, hall⟩ | ⟨x, e, x1, x2, x3, x4⟩
        · refine .inl ⟨e, fun j h1 h2 => ?_⟩
          by_cases hjc : j = c
          · rw [hjc]; exact hpc
          · exact hall j (by omega) h2
        · refine .inr ⟨x, e, by omega, x2, x3, fun j h1 h2 => ?_⟩
          by_cases hjc : j = c
          · rw [hjc]; exact hpc
          · exact x4 j (by omega) h2
      | some q =>
        have hq := pb c q hpc
        refine ⟨fun _ => bX11_cart_54 hi0 ?_, fun z => ?_⟩
        · rw [em, show iI (a : Int) + 1 = iI ((a + 1 : Nat) : Int) from by rw [iI_lit 1, iI_add]; congr 1]
          rw [hpc] at ha
          have hb := cnt_le (fun c => (p c).isSome) 1000
          have ha' : a + (cnt (fun c => (p c).isSome) c + 1) = cnt (fun c => (p c).isSome) 1000 := ha
          refine ih (by omega) (a + 1) c (by omega) (by omega) (.inr ⟨c, rfl, Nat.le_refl _, by omega, (by rw [hpc]; exact Option.some_ne_none q), fun j h1 h2 => by omega⟩)
        · rw [m1_iI, show oI (some q) = (q : Int) from rfl, iI_eq ⟨by omega, by omega⟩ ⟨by decide, by decide⟩] at z
          omega
  have := loop 1000 (Nat.le_refl _) 0 (-1) (by omega) (by omega) (.inl ⟨rfl, fun j h1 h2 => by omega⟩)
  exact this
end CART4
