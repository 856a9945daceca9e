section CART3
variable {G : GX} {h : mH} {Q : mO → mH → Prop}
def wyM (h : mH) (i ax : Nat) : Int := (gI h 99 (3 * i + 1 + ax)).toInt - swM h 87 0 ax (tkF h 99 i)
theorem mX11_wayOf {n i ax : Nat} (hi : Iv h) (hm : MR h 87 0) (hp : PtR h 99 n) (hin : i < n) (hax : ax < 2) (k : Q (.inl (some (.int (iI (wyM h i ax))))) h) : WM G jX11_wayOf [.ref 83, .int (iI i), .int (iI ax)] h Q := by
  have hn6 := hp.1
  obtain ⟨⟨q1, q2⟩, qa⟩ := hp.2 i hin
  have h3 : (3 : Int32) * iI (i : Int) = iI ((3 * i : Nat) : Int) := by rw [iI_lit 3, iI_mul]; congr 1
  have h3x : (iI ((3 * i : Nat) : Int)).toNatClampNeg = 3 * i := by rw [iI_ix ⟨by omega, by omega⟩]; rfl
  have h4 : iI ((3 * i : Nat) : Int) + 1 + iI (ax : Int) = iI ((3 * i + 1 + ax : Nat) : Int) := by rw [iI_lit 1, iI_add, iI_add]; congr 1
  have h4x : (iI ((3 * i + 1 + ax : Nat) : Int)).toNatClampNeg = 3 * i + 1 + ax := by rw [iI_ix ⟨by omega, by omega⟩]; rfl
  have etk : gI h 99 (3 * i) = iI (tkF h 99 i : Nat) := i32_nat q1
  have ltk : tkF h 99 i ≤ 9999 := by unfold tkF; omega
  refine eX11_wayOf hi ?_
  rw [h3, h4, h3x, h4x, etk]
  refine ⟨iI_in (by omega) (by omega) (by omega), iI_in (by omega) (by omega) (by omega), ?_⟩
  refine mX11_penOf (f := 0) hi (a := 87) (n := 12) rfl (by omega) (by omega) hax (by omega) hm (bX11_wayOf_30 hi ?_)
  rw [show gI h 99 (3 * i + 1 + ax) - iI (swM h 87 0 ax (tkF h 99 i)) = iI (wyM h i ax) from by
    conv => lhs; rw [← iI_self (gI h 99 (3 * i + 1 + ax)), iI_sub]
    rfl]
  exact k
theorem wyM_b {n i ax : Nat} (hm : MR h 87 0) (hp : PtR h 99 n) (hin : i < n) (hax : ax < 2) : -1000 ≤ wyM h i ax ∧ wyM h i ax ≤ 1000 := by
  have h1 := (hp.2 i hin).2 ax hax
  have h2 := swM_b (t := tkF h 99 i) hm hax
  have := h1.1
  have := h1.2
  unfold wyM
  omega
theorem s20_iI {x : Int} (h1 : -1000 ≤ x) (h2 : x ≤ 1000) : ((20 : Int32) < fX11_size (iI x) ↔ 20 < x.natAbs) ∧ (fX11_size (iI x) ≤ 20 ↔ x.natAbs ≤ 20) := by
  rw [size_iI (by omega) (by omega), show (20 : Int32) = iI 20 from by decide, iI_lt ⟨by decide, by decide⟩ ⟨by omega, by omega⟩, iI_le ⟨by omega, by omega⟩ ⟨by decide, by decide⟩]
  omega
theorem mX11_shows {n c : Nat} (hi : Iv h) (hm : MR h 87 0) (hp : PtR h 99 n) (hn : gI h 83 33 = iI n) (hc : c ≤ 999) (k : Q (.inl (some (.int (iI (oI (shw (tkF h 99) (wyM h) n c)))))) h) : WM G jX11_shows [.ref 83, .int (iI c)] h Q := by
  have hn6 := hp.1
  have o0 : (0 : Int32) = iI ((0 : Nat) : Int) := by decide
  have o1 : (1 : Int32) = iI ((1 : Nat) : Int) := by decide
  have way0 : ∀ {i : Nat} {R : mO → mH → Prop}, i < n → R (.inl (some (.int (iI (wyM h i 0))))) h → WM G jX11_wayOf [.ref 83, .int (iI i), .int 0] h R := fun hin kk => by rw [o0]; exact mX11_wayOf hi hm hp hin (by omega) kk
  have way1 : ∀ {i : Nat} {R : mO → mH → Prop}, i < n → R (.inl (some (.int (iI (wyM h i 1))))) h → WM G jX11_wayOf [.ref 83, .int (iI i), .int 1] h R := fun hin kk => by rw [o1]; exact mX11_wayOf hi hm hp hin (by omega) kk
  refine eX11_shows hi ?_
  have loop : ∀ m i : Nat, i + m = n → ∀ one, sho (tkF h 99) (wyM h) c i = some one → Vw G jX11_shows 4 [some (.ref 83), some (.int (iI c)), some (.int (iI (oI one))), some (.int (iI i))] [] h Q := by
    intro m
    induction m with
    | zero =>
      intro i him one hone
      have : i = n := by omega
      subst this
      refine bX11_shows_4 hi ⟨fun _ => ?_, fun z => absurd (by rw [hn]; exact Int32.le_refl _) z⟩
      unfold shw at k
      rw [hone] at k
      cases one with
      | none => exact ⟨fun _ => k, fun z => absurd rfl z⟩
      | some q =>
        have hq := sho_b _ _ hone
        have b0 := wyM_b (ax := 0) hm hp hq (by omega)
        have b1 := wyM_b (ax := 1) hm hp hq (by omega)
        have s0 := s20_iI b0.1 b0.2
        have s1 := s20_iI b1.1 b1.2
        have no : ¬ okW (wyM h) q = true → Q (.inl (some (.int (-1)))) h := fun y => by
          simp only [if_neg y] at k
          exact k
        have ye : okW (wyM h) q = true → Q (.inl (some (.int (iI (q : Int))))) h := fun y => by
          simp only [if_pos y] at k
          exact k
        refine ⟨fun z => ?_, fun _ => way0 hq (bX11_shows_100 hi ?_)⟩
        · rw [m1_iI, show oI (some q) = (q : Int) from rfl, iI_eq ⟨by omega, by omega⟩ ⟨by decide, by decide⟩] at z
          omega
        rw [s0.1]
        refine ⟨fun z => no (fun y => by have := (okW_iff.mp y).2.1; omega), fun z => way1 hq (bX11_shows_114 hi ?_)⟩
        rw [s1.2]
        refine ⟨fun z1 => way0 hq (bX11_shows_130 hi ?_), fun z1 => no (fun y => z1 (okW_iff.mp y).2.2)⟩
        rw [z_iI b0.1 b0.2]
        refine ⟨fun z2 => ye (okW_iff.mpr ⟨fun y => z2 y.1, by omega, z1⟩), fun z2 => way1 hq (bX11_shows_139 hi ?_)⟩
        rw [z_iI b1.1 b1.2]
        exact ⟨fun z3 => ye (okW_iff.mpr ⟨fun y => z3 y.2, by omega, z1⟩), fun z3 => no (fun y => (okW_iff.mp y).1 ⟨z2, z3⟩)⟩
    | succ m ih =>
      intro i him one hone
      have hin : i < n := by omega
      obtain ⟨⟨q1, q2⟩, qa⟩ := hp.2 i hin
      have etk : gI h 99 (3 * i) = iI (tkF h 99 i : Nat) := i32_nat q1
      have ltk : tkF h 99 i ≤ 9999 := by unfold tkF; omega
      have h3 : (3 : Int32) * iI (i : Int) = iI ((3 * i : Nat) : Int) := by rw [iI_lit 3, iI_mul]; congr 1
      have h3x : (iI ((3 * i : Nat) : Int)).toNatClampNeg = 3 * i := by rw [iI_ix ⟨by omega, by omega⟩]; rfl
      have b0 := wyM_b (ax := 0) hm hp hin (by omega)
      have b1 := wyM_b (ax := 1) hm hp hin (by omega)
      have next : ∀ one', sho (tkF h 99) (wyM h) c (i + 1) = some one' → Vw G jX11_shows 83 [some (.ref 83), some (.int (iI c)), some (.int (iI (oI one'))), some (.int (iI i))] [] h Q := by
        intro one' h'
        refine bX11_shows_83 hi ?_
        rw [show iI (i : Int) + 1 = iI ((i + 1 : Nat) : Int) from by rw [iI_lit 1, iI_add]; congr 1]
        exact ih (i + 1) (by omega) one' h'
      have fail : sho (tkF h 99) (wyM h) c (i + 1) = none → Q (.inl (some (.int (-1)))) h := by
        intro h'
        rw [shw_none h' (by omega)] at k
        exact k
      have htk : iI (c : Int) ≤ iI (tkF h 99 i : Int) ↔ ¬ tkF h 99 i < c := by rw [iI_le ⟨by omega, by omega⟩ ⟨by omega, by omega⟩]; omega
      have cmp : ∀ q : Nat, q < n → (wyM h i 0 = wyM h q 0 ∧ wyM h i 1 = wyM h q 1 → Vw G jX11_shows 83 [some (.ref 83), some (.int (iI c)), some (.int (iI (q : Int))), some (.int (iI i))] [] h Q) → (¬ (wyM h i 0 = wyM h q 0 ∧ wyM h i 1 = wyM h q 1) → Q (.inl (some (.int (-1)))) h) → Vw G jX11_shows 51 [some (.ref 83), some (.int (iI c)), some (.int (iI (q : Int))), some (.int (iI i))] [] h Q := by
        intro q hq ky kn
        have c0 := wyM_b (ax := 0) hm hp hq (by omega)
        have c1 := wyM_b (ax := 1) hm hp hq (by omega)
        refine bX11_shows_51 hi (way0 hin (bX11_shows_57 hi (way0 hq (bX11_shows_63 hi ?_))))
        rw [e_iI b0.1 b0.2 c0.1 c0.2]
        refine ⟨fun z => kn (fun y => z y.1), fun z => way1 hin (bX11_shows_72 hi (way1 hq (bX11_shows_78 hi ?_)))⟩
        rw [e_iI b1.1 b1.2 c1.1 c1.2]
        exact ⟨fun z1 => ky ⟨z, z1⟩, fun z1 => kn (fun y => z1 y.2)⟩
      refine bX11_shows_4 hi ⟨fun z => ?_, fun _ => ⟨by rw [h3]; exact iI_in (by omega) (by omega) (by omega), ?_⟩⟩
      · rw [hn, iI_le ⟨by omega, by omega⟩ ⟨by omega, by omega⟩] at z
        omega
      rw [h3, h3x, etk, htk]
      refine ⟨fun hnc => ?_, fun hcc => ?_⟩
      · cases one with
        | none => exact ⟨fun z => absurd rfl z, fun _ => cmp i hin (fun _ => next (some i) (sho_first hone hnc)) (fun z => absurd ⟨rfl, rfl⟩ z)⟩
        | some q =>
          have hq := sho_b _ _ hone
          have hs := sho_next hone hnc
          refine ⟨fun _ => cmp q (by omega) (fun z => next (some q) (by rw [hs, if_pos z])) (fun z => fail (by rw [hs, if_neg z])), fun z => ?_⟩
          rw [m1_iI, show oI (some q) = (q : Int) from rfl, iI_eq ⟨by omega, by omega⟩ ⟨by decide, by decide⟩] at z
          omega
      · have hlt : tkF h 99 i < c := Classical.byContradiction hcc
        have hs := sho_below hone hlt
        refine way0 hin (bX11_shows_30 hi ?_)
        rw [z_iI b0.1 b0.2]
        refine ⟨fun z => fail (by rw [hs, if_neg (fun y => z y.1)]), fun z => way1 hin (bX11_shows_39 hi ?_)⟩
        rw [z_iI b1.1 b1.2]
        exact ⟨fun z1 => next one (by rw [hs, if_pos ⟨z, z1⟩]), fun z1 => fail (by rw [hs, if_neg (fun y => z1 y.2)])⟩
  exact loop n 0 (by omega) none rfl
end CART3
