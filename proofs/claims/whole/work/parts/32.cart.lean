section CART
variable {G : GX} {h : mH} {Q : mO → mH → Prop}
/-- what points tell of a cart at a tick: nothing, or the point that tells its way -/
def sho (tk : Nat → Nat) (wy : Nat → Nat → Int) (c : Nat) : Nat → Option (Option Nat)
  | 0 => some none
  | i + 1 => match sho tk wy c i with
    | none => none
    | some one => if tk i < c then (if wy i 0 = 0 ∧ wy i 1 = 0 then some one else none) else match one with
      | none => some (some i)
      | some m => if wy i 0 = wy m 0 ∧ wy i 1 = wy m 1 then some (some m) else none
def okW (wy : Nat → Nat → Int) (m : Nat) : Bool := decide (¬ (wy m 0 = 0 ∧ wy m 1 = 0) ∧ (wy m 0).natAbs ≤ 20 ∧ (wy m 1).natAbs ≤ 20)
theorem okW_iff {wy : Nat → Nat → Int} {m : Nat} : okW wy m = true ↔ ¬ (wy m 0 = 0 ∧ wy m 1 = 0) ∧ (wy m 0).natAbs ≤ 20 ∧ (wy m 1).natAbs ≤ 20 := by unfold okW; simp only [decide_eq_true_eq]
def shw (tk : Nat → Nat) (wy : Nat → Nat → Int) (n c : Nat) : Option Nat := match sho tk wy c n with
  | some (some m) => if okW wy m then some m else none
  | _ => none
def oI : Option Nat → Int | none => -1 | some m => m
theorem sho_none {tk : Nat → Nat} {wy : Nat → Nat → Int} {c : Nat} : ∀ (e i : Nat), sho tk wy c i = none → sho tk wy c (i + e) = none
  | 0, i, h => h
  | e + 1, i, h => by
    show sho tk wy c (i + e + 1) = none
    unfold sho
    rw [sho_none e i h]
theorem shw_none {tk : Nat → Nat} {wy : Nat → Nat → Int} {c i n : Nat} (h : sho tk wy c i = none) (hin : i ≤ n) : shw tk wy n c = none := by
  have := sho_none (n - i) i h
  rw [show i + (n - i) = n from by omega] at this
  unfold shw
  rw [this]
theorem sho_b {tk : Nat → Nat} {wy : Nat → Nat → Int} {c : Nat} : ∀ (i m : Nat), sho tk wy c i = some (some m) → m < i
  | 0, m, e => by cases e
  | i + 1, m, e => by
    unfold sho at e
    split at e
    · cases e
    · rename_i one he
      split at e
      · split at e
        · cases e
          have := sho_b i m he
          omega
        · cases e
      · split at e
        · cases e; omega
        · rename_i m'
          split at e
          · cases e
            have := sho_b i m he
            omega
          · cases e
theorem sho_below {tk : Nat → Nat} {wy : Nat → Nat → Int} {c i : Nat} {one : Option Nat} (e : sho tk wy c i = some one) (hc : tk i < c) : sho tk wy c (i + 1) = if wy i 0 = 0 ∧ wy i 1 = 0 then some one else none := by
  conv => lhs; unfold sho
  rw [e]
  exact if_pos hc
theorem sho_first {tk : Nat → Nat} {wy : Nat → Nat → Int} {c i : Nat} (e : sho tk wy c i = some none) (hc : ¬ tk i < c) : sho tk wy c (i + 1) = some (some i) := by
  conv => lhs; unfold sho
  rw [e]
  exact if_neg hc
theorem sho_next {tk : Nat → Nat} {wy : Nat → Nat → Int} {c i m : Nat} (e : sho tk wy c i = some (some m)) (hc : ¬ tk i < c) : sho tk wy c (i + 1) = if wy i 0 = wy m 0 ∧ wy i 1 = wy m 1 then some (some m) else none := by
  conv => lhs; unfold sho
  rw [e]
  exact if_neg hc
/-- rows 74 and 36 hold ways and ticks -/
def WyR (h : mH) (tk : Nat → Nat) (wy : Nat → Nat → Int) (n : Nat) : Prop := n ≤ 6 ∧ (∀ i, i < n → ∀ ax, ax < 2 → gI h 74 (2 * i + ax) = iI (wy i ax) ∧ -1000 ≤ wy i ax ∧ wy i ax ≤ 1000) ∧ (∀ i, i < n → gI h 36 (3 * i) = iI (tk i : Nat) ∧ tk i ≤ 9999) ∧ gI h 33 3 = iI n
theorem WyR.n6 {tk : Nat → Nat} {wy : Nat → Nat → Int} {n : Nat} (hw : WyR h tk wy n) : n ≤ 6 := hw.1
theorem WyR.w {tk : Nat → Nat} {wy : Nat → Nat → Int} {n : Nat} (hw : WyR h tk wy n) : ∀ i, i < n → ∀ ax, ax < 2 → gI h 74 (2 * i + ax) = iI (wy i ax) ∧ -1000 ≤ wy i ax ∧ wy i ax ≤ 1000 := hw.2.1
theorem WyR.t {tk : Nat → Nat} {wy : Nat → Nat → Int} {n : Nat} (hw : WyR h tk wy n) : ∀ i, i < n → gI h 36 (3 * i) = iI (tk i : Nat) ∧ tk i ≤ 9999 := hw.2.2.1
theorem WyR.p {tk : Nat → Nat} {wy : Nat → Nat → Int} {n : Nat} (hw : WyR h tk wy n) : gI h 33 3 = iI n := hw.2.2.2
theorem x2_iI {i : Nat} (hi : i < 6) : (2 : Int32) * iI (i : Int) = iI ((2 * i : Nat) : Int) ∧ (iI ((2 * i : Nat) : Int)).toNatClampNeg = 2 * i + 0 ∧ iI ((2 * i : Nat) : Int) + 1 = iI ((2 * i + 1 : Nat) : Int) ∧ (iI ((2 * i + 1 : Nat) : Int)).toNatClampNeg = 2 * i + 1 ∧ vp_in (iI ((2 * i : Nat) : Int)) 12 ∧ vp_in (iI ((2 * i + 1 : Nat) : Int)) 12 :=
  ⟨by rw [iI_lit 2, iI_mul]; congr 1, by rw [iI_ix ⟨by omega, by omega⟩]; rfl, by rw [iI_lit 1, iI_add]; congr 1, by rw [iI_ix ⟨by omega, by omega⟩]; rfl, iI_in (by omega) (by omega) (by omega), iI_in (by omega) (by omega) (by omega)⟩
theorem z_iI {x : Int} (h1 : -1000 ≤ x) (h2 : x ≤ 1000) : iI x = 0 ↔ x = 0 := by rw [i32_0, iI_eq ⟨by omega, by omega⟩ ⟨by decide, by decide⟩]
theorem e_iI {x y : Int} (h1 : -1000 ≤ x) (h2 : x ≤ 1000) (h3 : -1000 ≤ y) (h4 : y ≤ 1000) : iI x = iI y ↔ x = y := by rw [iI_eq ⟨by omega, by omega⟩ ⟨by omega, by omega⟩]
theorem a20_iI {x : Int} (h1 : -1000 ≤ x) (h2 : x ≤ 1000) : (20 : Int32) < fJ9_abs_0f7a4 (iI x) ↔ 20 < x.natAbs := by
  rw [abs_iI (by omega) (by omega), show (20 : Int32) = iI 20 from by decide, iI_lt ⟨by decide, by decide⟩ ⟨by omega, by omega⟩]
  omega
theorem mX1_isStill {tk : Nat → Nat} {wy : Nat → Nat → Int} {n i : Nat} (hi : Iv h) (hw : WyR h tk wy n) (hin : i < n) (k : Q (.inl (some (.int (bI (wy i 0 = 0 ∧ wy i 1 = 0))))) h) : WM G jX1_isStill [.ref 71, .int (iI i)] h Q := by
  have hn6 := hw.n6
  obtain ⟨x1, x2, x3, x4, x5, x6⟩ := x2_iI (i := i) (by omega)
  obtain ⟨w0, a0, b0⟩ := hw.w i hin 0 (by omega)
  obtain ⟨w1, a1, b1⟩ := hw.w i hin 1 (by omega)
  refine eX1_isStill hi ?_
  rw [x1, x3, x2, x4, w0, w1, z_iI a0 b0, z_iI a1 b1]
  refine ⟨x5, fun c => ?_, fun c => ⟨x6, fun c1 => ?_, fun c1 => ?_⟩⟩
  · rw [bI0 (fun z => c z.1)] at k; exact k
  · rw [bI0 (fun z => c1 z.2)] at k; exact k
  · rw [bI1 ⟨c, c1⟩] at k; exact k
theorem mX1_isCartsWay {tk : Nat → Nat} {wy : Nat → Nat → Int} {n i : Nat} (hi : Iv h) (hw : WyR h tk wy n) (hin : i < n) (k : Q (.inl (some (.int (bI (okW wy i = true))))) h) : WM G jX1_isCartsWay [.ref 71, .int (iI i)] h Q := by
  have hn6 := hw.n6
  obtain ⟨x1, x2, x3, x4, x5, x6⟩ := x2_iI (i := i) (by omega)
  obtain ⟨w0, a0, b0⟩ := hw.w i hin 0 (by omega)
  obtain ⟨w1, a1, b1⟩ := hw.w i hin 1 (by omega)
  refine eX1_isCartsWay hi (mX1_isStill hi hw hin (bX1_isCartsWay_5 hi ?_))
  rw [x1, x3, x2, x4, w0, w1, a20_iI a0 b0, a20_iI a1 b1]
  refine ⟨fun c => ?_, fun c => ⟨x5, fun c1 => ?_, fun c1 => ⟨x6, fun c2 => ?_, fun c2 => ?_⟩⟩⟩
  · have hs : wy i 0 = 0 ∧ wy i 1 = 0 := Classical.byContradiction fun z => c (bI0 z)
    rw [bI0 (fun z => (okW_iff.mp z).1 hs)] at k; exact k
  · rw [bI0 (fun z => by have := (okW_iff.mp z).2.1; omega)] at k; exact k
  · rw [bI0 (fun z => by have := (okW_iff.mp z).2.2; omega)] at k; exact k
  · have hs : ¬ (wy i 0 = 0 ∧ wy i 1 = 0) := fun z => by rw [bI1 z] at c; exact absurd c (by decide)
    rw [bI1 (okW_iff.mpr ⟨hs, by omega, by omega⟩)] at k; exact k
theorem mX1_modelOf {tk : Nat → Nat} {wy : Nat → Nat → Int} {n c : Nat} (hi : Iv h) (hw : WyR h tk wy n) (hc : c ≤ 999) (k : Q (.inl (some (.int (iI (oI (shw tk wy n c)))))) h) : WM G jX1_modelOf [.ref 71, .int (iI c), .ref 33] h Q := by
  have hn6 := hw.n6
  refine eX1_modelOf (r2 := 33) hi rfl ?_
  have loop : ∀ m i : Nat, i + m = n → ∀ one, sho tk wy c i = some one → Vw G jX1_modelOf 5 [some (.ref 71), some (.int (iI c)), some (.ref 33), some (.int (iI (oI one))), some (.int (iI i))] [] h Q := by
    intro m
    induction m with
    | zero =>
      intro i him one hone
      have : i = n := by omega
      subst this
      refine bX1_modelOf_5 hi rfl ⟨fun _ => ?_, fun z => absurd (by rw [hw.p]; exact Int32.le_refl _) z⟩
      unfold shw at k
      rw [hone] at k
      cases one with
      | none => exact ⟨fun _ => k, fun z => absurd rfl z⟩
      | some q =>
        have hq := sho_b _ _ hone
        refine ⟨fun z => ?_, fun _ => mX1_isCartsWay hi hw hq (bX1_modelOf_111 hi ⟨fun z => ?_, fun z => ?_⟩)⟩
        · rw [m1_iI, show oI (some q) = (q : Int) from rfl, iI_eq ⟨by omega, by omega⟩ ⟨by decide, by decide⟩] at z
          omega
        · have : ¬ okW wy q = true := fun y => by rw [bI1 y] at z; exact absurd z (by decide)
          simp only [if_neg this] at k
          exact k
        · have : okW wy q = true := Classical.byContradiction fun y => z (bI0 y)
          simp only [if_pos this] at k
          exact k
    | succ m ih =>
      intro i him one hone
      have hin : i < n := by omega
      obtain ⟨t1, t2⟩ := hw.t i hin
      have h3 : (3 : Int32) * iI (i : Int) = iI ((3 * i : Nat) : Int) := by rw [iI_lit 3, iI_mul]; congr 1
      have h3x : (iI ((3 * i : Nat) : Int)).toNatClampNeg = 3 * i := by rw [iI_ix ⟨by omega, by omega⟩]; rfl
      obtain ⟨x1, x2, x3, x4, x5, x6⟩ := x2_iI (i := i) (by omega)
      obtain ⟨w0, a0, b0⟩ := hw.w i hin 0 (by omega)
      obtain ⟨w1, a1, b1⟩ := hw.w i hin 1 (by omega)
      have next : ∀ one', sho tk wy c (i + 1) = some one' → Vw G jX1_modelOf 95 [some (.ref 71), some (.int (iI c)), some (.ref 33), some (.int (iI (oI one'))), some (.int (iI i))] [] h Q := by
        intro one' h'
        refine bX1_modelOf_95 hi rfl ?_
        rw [show iI (i : Int) + 1 = iI ((i + 1 : Nat) : Int) from by rw [iI_lit 1, iI_add]; congr 1]
        exact ih (i + 1) (by omega) one' h'
      have fail : sho tk wy c (i + 1) = none → Q (.inl (some (.int (-1)))) h := by
        intro h'
        rw [shw_none h' (by omega)] at k
        exact k
      have htk : iI (c : Int) ≤ iI (tk i : Int) ↔ ¬ tk i < c := by rw [iI_le ⟨by omega, by omega⟩ ⟨by omega, by omega⟩]; omega
      refine bX1_modelOf_5 hi rfl ⟨fun z => ?_, fun _ => ⟨by rw [h3]; exact iI_in (by omega) (by omega) (by omega), ?_⟩⟩
      · rw [hw.p, iI_le ⟨by omega, by omega⟩ ⟨by omega, by omega⟩] at z
        omega
      rw [h3, h3x]
      show (iI (c : Int) ≤ gI h 36 (3 * i) → _) ∧ (¬ iI (c : Int) ≤ gI h 36 (3 * i) → _)
      rw [t1, htk]
      refine ⟨fun hnc => ?_, fun hcc => ?_⟩
      · cases one with
        | none => exact ⟨fun z => absurd rfl z, fun _ => next _ (sho_first hone hnc)⟩
        | some q =>
          have hq := sho_b _ _ hone
          obtain ⟨y1, y2, y3, y4, y5, y6⟩ := x2_iI (i := q) (by omega)
          obtain ⟨v0, c0, d0⟩ := hw.w q (by omega) 0 (by omega)
          obtain ⟨v1, c1, d1⟩ := hw.w q (by omega) 1 (by omega)
          have hs := sho_next hone hnc
          refine ⟨fun _ => ?_, fun z => ?_⟩
          · show vp_in (2 * iI (i : Int)) 12 ∧ vp_in (2 * iI (q : Int)) 12 ∧ (¬ gI h 74 (Int32.toNatClampNeg (2 * iI (i : Int))) = gI h 74 (Int32.toNatClampNeg (2 * iI (q : Int))) → _) ∧ (gI h 74 (Int32.toNatClampNeg (2 * iI (i : Int))) = gI h 74 (Int32.toNatClampNeg (2 * iI (q : Int))) → vp_in (2 * iI (i : Int) + 1) 12 ∧ vp_in (2 * iI (q : Int) + 1) 12 ∧ (gI h 74 (Int32.toNatClampNeg (2 * iI (i : Int) + 1)) = gI h 74 (Int32.toNatClampNeg (2 * iI (q : Int) + 1)) → _) ∧ (¬ gI h 74 (Int32.toNatClampNeg (2 * iI (i : Int) + 1)) = gI h 74 (Int32.toNatClampNeg (2 * iI (q : Int) + 1)) → _))
            rw [x1, x3, x2, x4, y1, y3, y2, y4, w0, w1, v0, v1, e_iI a0 b0 c0 d0, e_iI a1 b1 c1 d1]
            refine ⟨x5, y5, fun z => fail ?_, fun z => ⟨x6, y6, fun z1 => next (some q) ?_, fun z1 => fail ?_⟩⟩
            · rw [hs, if_neg (fun y => z y.1)]
            · rw [hs, if_pos ⟨z, z1⟩]
            · rw [hs, if_neg (fun y => z1 y.2)]
          · rw [m1_iI, show oI (some q) = (q : Int) from rfl, iI_eq ⟨by omega, by omega⟩ ⟨by decide, by decide⟩] at z
            omega
      · have hlt : tk i < c := Classical.byContradiction hcc
        have hs := sho_below hone hlt
        refine mX1_isStill hi hw hin (bX1_modelOf_33 hi rfl ⟨fun z => next one ?_, fun z => fail ?_⟩)
        · have : wy i 0 = 0 ∧ wy i 1 = 0 := Classical.byContradiction fun y => z (bI0 y)
          rw [hs, if_pos this]
        · have : ¬ (wy i 0 = 0 ∧ wy i 1 = 0) := fun y => by rw [bI1 y] at z; exact absurd z (by decide)
          rw [hs, if_neg this]
  exact loop n 0 (by omega) none rfl
end CART
