section CART2
variable {G : GX} {h : mH} {Q : mO → mH → Prop}
def frs (p : Nat → Option Nat) : Nat → Option (Nat × Nat)
  | 0 => none
  | k + 1 => match frs p k with
    | some x => some x
    | none => match p k with
      | none => none
      | some m => some (k, m)
theorem frs_old {p : Nat → Option Nat} {k : Nat} {x : Nat × Nat} (e : frs p k = some x) : frs p (k + 1) = some x := by
  unfold frs; rw [e]
theorem frs_no {p : Nat → Option Nat} {k : Nat} (e : frs p k = none) (e2 : p k = none) : frs p (k + 1) = none := by
  unfold frs; rw [e, e2]
theorem frs_new {p : Nat → Option Nat} {k m : Nat} (e : frs p k = none) (e2 : p k = some m) : frs p (k + 1) = some (k, m) := by
  unfold frs; rw [e, e2]
theorem frs_cnt {p : Nat → Option Nat} : ∀ k, frs p k = none ↔ cnt (fun c => (p c).isSome) k = 0
  | 0 => ⟨fun _ => rfl, fun _ => rfl⟩
  | k + 1 => by
    have ih := frs_cnt (p := p) k
    cases e : frs p k with
    | some x =>
      rw [frs_old e]
      refine ⟨fun z => (by cases z), fun z => ?_⟩
      unfold cnt at z
      have := ih.mpr (by omega)
      rw [e] at this
      cases this
    | none =>
      have h0 := ih.mp e
      cases e2 : p k with
      | none =>
        rw [frs_no e e2]
        refine ⟨fun _ => ?_, fun _ => rfl⟩
        unfold cnt
        rw [h0, e2]; rfl
      | some m =>
        rw [frs_new e e2]
        refine ⟨fun z => (by cases z), fun z => ?_⟩
        unfold cnt at z
        rw [h0, e2] at z
        exact absurd z (by simp)
theorem frs_b {p : Nat → Option Nat} : ∀ k c m, frs p k = some (c, m) → c < k ∧ p c = some m ∧ ∀ j, j < c → p j = none
  | 0, c, m, e => by cases e
  | k + 1, c, m, e => by
    cases e1 : frs p k with
    | some x =>
      rw [frs_old e1] at e
      cases e
      have := frs_b k c m e1
      exact ⟨by omega, this.2⟩
    | none =>
      have hz := (frs_cnt k).mp e1
      have hall : ∀ n, cnt (fun c => (p c).isSome) n = 0 → ∀ j, j < n → p j = none := by
        intro n
        induction n with
        | zero => intro _ j hj; omega
        | succ n ih =>
          intro h0 j hj
          unfold cnt at h0
          by_cases hjn : j = n
          · subst hjn
            cases hp : p j with
            | none => rfl
            | some y => rw [hp] at h0; exact absurd h0 (by simp)
          · exact ih (by omega) j (by omega)
      cases e2 : p k with
      | none => rw [frs_no e1 e2] at e; cases e
      | some y =>
        rw [frs_new e1 e2] at e
        cases e
        exact ⟨by omega, e2, hall k hz⟩
def tkF (h : mH) (a i : Nat) : Nat := (gI h a (3 * i)).toInt.toNat
def wyF (h : mH) (i ax : Nat) : Int := (gI h 36 (3 * i + 1 + ax)).toInt - swF h 3 ax (tkF h 36 i)
def PtR (h : mH) (a n : Nat) : Prop := n ≤ 6 ∧ ∀ i, i < n → rg (gI h a (3 * i)) 0 9999 ∧ ∀ ax, ax < 2 → rg (gI h a (3 * i + 1 + ax)) (-260) 260
def csm (o : Nat) : Bool := cr 3 o || (o == 71 || (o == 74))
def oW (wy : Nat → Nat → Int) (ax : Nat) : Option (Nat × Nat) → Int | none => 0 | some (_, m) => wy m ax
def caV (p : Nat → Option Nat) (wy : Nat → Nat → Int) (w : Int32) : Int := if w = 0 then (cnt (fun c => (p c).isSome) 1000 : Nat) else if w = 1 then oR (frs p 1000) else if w = 2 then oW wy 0 (frs p 1000) else oW wy 1 (frs p 1000)
theorem csm_out : ∀ d, d ≤ 6 → csm (3 + d) = false := by
  intro d hd
  unfold csm cr
  simp
  omega
theorem mX1_findCart {n : Nat} (hi : Iv h) (hf : FR h 3) (hfd : FdOk h 3) (hn : gI h 33 3 = iI n) (hp : PtR h 36 n)
    (k : ∀ h', Sm csm h h' → FdOk h' 3 → gI h' 71 4 = iI (cnt (fun c => (shw (tkF h 36) (wyF h) n c).isSome) 1000 : Nat) → gI h' 71 5 = iI (oR (frs (shw (tkF h 36) (wyF h) n) 1000)) → gI h' 71 6 = iI (oW (wyF h) 0 (frs (shw (tkF h 36) (wyF h) n) 1000)) → gI h' 71 7 = iI (oW (wyF h) 1 (frs (shw (tkF h 36) (wyF h) n) 1000)) → Q (.inl none) h') : WM G jX1_findCart [.ref 71, .ref 3, .ref 33] h Q := by
  have hn6 := hp.1
  have wyb : ∀ i, i < n → ∀ ax, ax < 2 → -1000 ≤ wyF h i ax ∧ wyF h i ax ≤ 1000 := by
    intro i hin ax hax
    have h1 := (hp.2 i hin).2 ax hax
    have h2 := swF_b (t := tkF h 36 i) hf hax
    have := h1.1
    have := h1.2
    unfold wyF
    omega
  refine eX1_findCart (r1 := 3) (r2 := 33) hi rfl rfl ?_
  obtain ⟨p, hpp⟩ : ∃ p, p = shw (tkF h 36) (wyF h) n := ⟨_, rfl⟩
  rw [← hpp] at k
  have second : ∀ m c : Nat, c + m = 1000 → ∀ h1, Sm csm h h1 → FdOk h1 3 → WyR h1 (tkF h 36) (wyF h) n → gI h1 71 4 = iI (cnt (fun c => (p c).isSome) c : Nat) → gI h1 71 5 = iI (oR (frs p c)) → gI h1 71 6 = iI (oW (wyF h) 0 (frs p c)) → gI h1 71 7 = iI (oW (wyF h) 1 (frs p c)) → Vw G jX1_findCart 102 [some (.ref 71), none, some (.ref 33), some (.int (iI c)), none] [] h1 Q := by
    intro m
    induction m with
    | zero =>
      intro c hcm h1 hS1 hfd1 hw e4 e5 e6 e7
      have : c = 1000 := by omega
      subst this
      exact bX1_findCart_102 (hS1.iv hi) rfl ⟨fun _ => k h1 hS1 hfd1 e4 e5 e6 e7, fun z => absurd (by decide) z⟩
    | succ m ih =>
      intro c hcm h1 hS1 hfd1 hw e4 e5 e6 e7
      have hi1 := hS1.iv hi
      have hcl := cnt_le (fun c => (p c).isSome) c
      have ec1 : iI (c : Int) + 1 = iI ((c + 1 : Nat) : Int) := by rw [iI_lit 1, iI_add]; congr 1
      refine bX1_findCart_102 hi1 rfl ⟨fun z => ?_, fun _ => eX1_tryCart (r2 := 33) hi1 rfl (mX1_modelOf hi1 hw (by omega) ?_)⟩
      · rw [show (999 : Int32) = iI 999 from by decide, iI_lt ⟨by decide, by decide⟩ ⟨by omega, by omega⟩] at z
        omega
      rw [← hpp]
      refine bX1_tryCart_6 hi1 ?_
      cases hpc : p c with
      | none =>
        refine ⟨fun z => absurd rfl z, fun _ => bX1_findCart_115 hi1 rfl ?_⟩
        rw [ec1]
        have ef : frs p (c + 1) = frs p c := by
          cases e : frs p c with
          | some x => exact frs_old e
          | none => exact frs_no e hpc
        refine ih (c + 1) (by omega) h1 hS1 hfd1 hw ?_ (by rw [ef]; exact e5) (by rw [ef]; exact e6) (by rw [ef]; exact e7)
        rw [e4]
        conv => rhs; unfold cnt
        rw [hpc]; rfl
      | some q =>
        have hqn : q < n := by
          rw [hpp] at hpc
          unfold shw at hpc
          split at hpc
          · rename_i m' hm'
            split at hpc
            · cases hpc; exact sho_b _ _ hm'
            · cases hpc
          · cases hpc
        have hcnt : cnt (fun c => (p c).isSome) (c + 1) = cnt (fun c => (p c).isSome) c + 1 := by
          conv => lhs; unfold cnt
          rw [hpc]; rfl
        have step : ∀ h2, Sm csm h h2 → FdOk h2 3 → WyR h2 (tkF h 36) (wyF h) n → gI h2 71 4 = iI (cnt (fun c => (p c).isSome) c : Nat) → gI h2 71 5 = iI (oR (frs p (c + 1))) → gI h2 71 6 = iI (oW (wyF h) 0 (frs p (c + 1))) → gI h2 71 7 = iI (oW (wyF h) 1 (frs p (c + 1))) → Vw G jX1_tryCart 51 [some (.ref 71), none, none, none] [] h2 (Aft G jX1_findCart 112 [some (.ref 71), none, some (.ref 33), some (.int (iI c)), none] [] Q) := by
          intro h2 hS2 hfd2 hw2 g4 g5 g6 g7
          have hi2 := hS2.iv hi
          have S3 : Sm (fun o => o == 71) h2 (pI h2 71 4 (gI h2 71 4 + 1)) := Sm.pI Sm.rf rfl _ _
          refine bX1_tryCart_51 hi2 (bX1_findCart_115 (h := pI h2 71 4 (gI h2 71 4 + 1)) hi2 rfl ?_)
          rw [ec1]
          refine ih (c + 1) (by omega) _ (hS2.pI rfl _ _) (FdOk_cg S3 (by intro d d1 d2; simp; omega) hfd2) ⟨hw2.1, fun i hin ax hax => by rw [S3.gI (o := 74) rfl]; exact hw2.2.1 i hin ax hax, fun i hin => by rw [S3.gI (o := 36) rfl]; exact hw2.2.2.1 i hin, by rw [S3.gI (o := 33) rfl]; exact hw2.2.2.2⟩ ?_ ?_ ?_ ?_
          · rw [gI_pI, if_pos ⟨rfl, rfl⟩, g4, hcnt, iI_lit 1, iI_add]
            congr 1
          · rw [gI_pI, if_neg (by omega)]; exact g5
          · rw [gI_pI, if_neg (by omega)]; exact g6
          · rw [gI_pI, if_neg (by omega)]; exact g7
        have zc : gI h1 71 4 = 0 ↔ frs p c = none := by
          rw [e4, i32_0, iI_eq ⟨by omega, by omega⟩ ⟨by decide, by decide⟩, frs_cnt]
          omega
        refine ⟨fun _ => ⟨fun z => ?_, fun z => ?_⟩, fun z => ?_⟩
        · rw [zc] at z
          cases e : frs p c with
          | none => exact absurd e z
          | some x =>
            have ef := frs_old e
            rw [e] at e5 e6 e7
            exact step h1 hS1 hfd1 hw e4 (by rw [ef]; exact e5) (by rw [ef]; exact e6) (by rw [ef]; exact e7)
        · rw [zc] at z
          have ef := frs_new z hpc
          obtain ⟨y1, y2, y3, y4, y5, y6⟩ := x2_iI (i := q) (by omega)
          obtain ⟨v0, c0, d0⟩ := hw.w q hqn 0 (by omega)
          obtain ⟨v1, c1, d1⟩ := hw.w q hqn 1 (by omega)
          show vp_in (2 * iI (q : Int)) 12 ∧ vp_in (2 * iI (q : Int) + 1) 12 ∧ Vw G jX1_tryCart 51 [some (.ref 71), none, none, none] [] (pI (pI (pI h1 71 5 (iI c)) 71 6 (gI h1 74 (Int32.toNatClampNeg (2 * iI (q : Int))))) 71 7 (gI h1 74 (Int32.toNatClampNeg (2 * iI (q : Int) + 1)))) _
          rw [y1, y3, y2, y4, v0, v1]
          have S3 : Sm (fun o => o == 71) h1 (pI (pI (pI h1 71 5 (iI c)) 71 6 (iI (wyF h q 0))) 71 7 (iI (wyF h q 1))) := ((Sm.rf.pI rfl _ _).pI rfl _ _).pI rfl _ _
          refine ⟨y5, y6, step _ (((hS1.pI rfl _ _).pI rfl _ _).pI rfl _ _) (FdOk_cg S3 (by intro d d1 d2; simp; omega) hfd1) ⟨hw.1, fun i hin ax hax => by rw [S3.gI (o := 74) rfl]; exact hw.2.1 i hin ax hax, fun i hin => by rw [S3.gI (o := 36) rfl]; exact hw.2.2.1 i hin, by rw [S3.gI (o := 33) rfl]; exact hw.2.2.2⟩ ?_ ?_ ?_ ?_⟩
          · rw [gI_pI, if_neg (by omega), gI_pI, if_neg (by omega), gI_pI, if_neg (by omega)]; exact e4
          · rw [gI_pI, if_neg (by omega), gI_pI, if_neg (by omega), gI_pI, if_pos ⟨rfl, rfl⟩, ef]; rfl
          · rw [gI_pI, if_neg (by omega), gI_pI, if_pos ⟨rfl, rfl⟩, ef]; rfl
          · rw [gI_pI, if_pos ⟨rfl, rfl⟩, ef]; rfl
        · rw [m1_iI, show oI (some q) = (q : Int) from rfl, iI_eq ⟨by omega, by omega⟩ ⟨by decide, by decide⟩] at z
          omega
  have first : ∀ m i : Nat, i + m = n → ∀ h1, Sm csm h h1 → FdOk h1 3 → (∀ j, j < i → ∀ ax, ax < 2 → gI h1 74 (2 * j + ax) = iI (wyF h j ax)) → Vw G jX1_findCart 2 [some (.ref 71), some (.ref 3), some (.ref 33), some (.int (iI i)), none] [] h1 Q := by
    intro m
    induction m with
    | zero =>
      intro i him h1 hS1 hfd1 hw
      have : i = n := by omega
      subst this
      have hi1 := hS1.iv hi
      have S3 : Sm (fun o => o == 71) h1 (pI (pI (pI (pI h1 71 4 0) 71 5 (-1)) 71 6 0) 71 7 0) := (((Sm.rf.pI rfl _ _).pI rfl _ _).pI rfl _ _).pI rfl _ _
      refine bX1_findCart_2 hi1 rfl rfl ⟨fun _ => second 1000 0 (by omega) _ ((((hS1.pI rfl _ _).pI rfl _ _).pI rfl _ _).pI rfl _ _) (FdOk_cg S3 (by intro d d1 d2; simp; omega) hfd1) ⟨hn6, fun j hj ax hax => ?_, fun j hj => ?_, ?_⟩ ?_ ?_ ?_ ?_, fun z => absurd ?_ z⟩
      · rw [S3.gI (o := 74) rfl]
        exact ⟨hw j hj ax hax, wyb j hj ax hax⟩
      · rw [S3.gI (o := 36) rfl, hS1.gI (o := 36) rfl]
        obtain ⟨⟨q1, q2⟩, _⟩ := hp.2 j hj
        refine ⟨i32_nat q1, ?_⟩
        unfold tkF
        omega
      · rw [S3.gI (o := 33) rfl, hS1.gI (o := 33) rfl]; exact hn
      · rw [gI_pI, if_neg (by omega), gI_pI, if_neg (by omega), gI_pI, if_neg (by omega), gI_pI, if_pos ⟨rfl, rfl⟩]; exact i32_0
      · rw [gI_pI, if_neg (by omega), gI_pI, if_neg (by omega), gI_pI, if_pos ⟨rfl, rfl⟩]; exact m1_iI
      · rw [gI_pI, if_neg (by omega), gI_pI, if_pos ⟨rfl, rfl⟩]; exact i32_0
      · rw [gI_pI, if_pos ⟨rfl, rfl⟩]; exact i32_0
      · rw [show gI h1 33 3 = gI h 33 3 from hS1.gI rfl 3, hn]; exact Int32.le_refl _
    | succ m ih =>
      intro i him h1 hS1 hfd1 hw
      have hi1 := hS1.iv hi
      have hin : i < n := by omega
      obtain ⟨⟨q1, q2⟩, qa⟩ := hp.2 i hin
      have h3 : (3 : Int32) * iI (i : Int) = iI ((3 * i : Nat) : Int) := by rw [iI_lit 3, iI_mul]; congr 1
      have h3x : (iI ((3 * i : Nat) : Int)).toNatClampNeg = 3 * i := by rw [iI_ix ⟨by omega, by omega⟩]; rfl
      have h31 : iI ((3 * i : Nat) : Int) + 1 = iI ((3 * i + 1 + 0 : Nat) : Int) := by rw [iI_lit 1, iI_add]; congr 1
      have h31x : (iI ((3 * i + 1 + 0 : Nat) : Int)).toNatClampNeg = 3 * i + 1 + 0 := by rw [iI_ix ⟨by omega, by omega⟩]; rfl
      have h32 : iI ((3 * i : Nat) : Int) + 2 = iI ((3 * i + 1 + 1 : Nat) : Int) := by rw [iI_lit 2, iI_add]; congr 1
      have h32x : (iI ((3 * i + 1 + 1 : Nat) : Int)).toNatClampNeg = 3 * i + 1 + 1 := by rw [iI_ix ⟨by omega, by omega⟩]; rfl
      obtain ⟨y1, y2, y3, y4, y5, y6⟩ := x2_iI (i := i) (by omega)
      have r36 : ∀ j, gI h1 36 j = gI h 36 j := fun j => hS1.gI (o := 36) rfl j
      have etk : gI h 36 (3 * i) = iI (tkF h 36 i : Nat) := i32_nat q1
      have ltk : tkF h 36 i ≤ 9999 := by unfold tkF; omega
      have hf1 := FR_cg hS1 csm_out hf
      refine bX1_findCart_2 hi1 rfl rfl ⟨fun z => ?_, fun _ => ?_⟩
      · rw [show gI h1 33 3 = gI h 33 3 from hS1.gI rfl 3, hn, iI_le ⟨by omega, by omega⟩ ⟨by omega, by omega⟩] at z
        omega
      rw [h3, h31, h3x, h31x, y1]
      show vp_in (iI ((3 * i : Nat) : Int)) 18 ∧ vp_in (iI ((3 * i + 1 + 0 : Nat) : Int)) 18 ∧ WM G jX2_swungTo [.ref 3, .int (gI h1 36 (3 * i)), .int 0] h1 (Aft G jX1_findCart 41 [some (.ref 71), some (.ref 3), some (.ref 33), some (.int (iI i)), some (.int (gI h1 36 (3 * i)))] [.int (gI h1 36 (3 * i + 1 + 0)), .int (iI ((2 * i : Nat) : Int)), .ref 74] Q)
      rw [r36, r36, etk]
      refine ⟨iI_in (by omega) (by omega) (by omega), iI_in (by omega) (by omega) (by omega), ?_⟩
      rw [show (0 : Int32) = iI ((0 : Nat) : Int) from by decide]
      refine mX2_swungTo hi1 rfl (by omega) (by omega) hf1 hfd1 (fun h2 hS2 hfd2 => ?_)
      have hi2 := hS2.iv hi1
      have hS2' : Sm csm h1 h2 := hS2.wk (fun o ho => by unfold csm at ho; simp at ho; exact ho.1)
      have hS02 := hS1.tr hS2'
      rw [swF_cg hS1 csm_out]
      refine bX1_findCart_44 hi2 rfl rfl ?_
      rw [y2, h3, h32, h32x, y1, y3]
      obtain ⟨h3h, hh3⟩ : ∃ h3h, h3h = pI h2 74 (2 * i + 0) (gI h 36 (3 * i + 1 + 0) - iI (swF h 3 0 (tkF h 36 i))) := ⟨_, rfl⟩
      rw [← hh3]
      have hS3 : Sm csm h h3h := by rw [hh3]; exact hS02.pI rfl _ _
      have hi3 := hS3.iv hi
      have hfd3 : FdOk h3h 3 := by
        rw [hh3]
        exact FdOk_cg (Sm.pI (S := fun o => o == 74) Sm.rf rfl _ _) (by intro d d1 d2; simp; omega) hfd2
      have hf3 := FR_cg hS3 csm_out hf
      refine ⟨y5, iI_in (by omega) (by omega) (by omega), ?_⟩
      rw [show (1 : Int32) = iI ((1 : Nat) : Int) from by decide]
      refine mX2_swungTo hi3 rfl (by omega) (by omega) hf3 hfd3 (fun h4 hS4 hfd4 => ?_)
      have hi4 := hS4.iv hi3
      have hS4' : Sm csm h3h h4 := hS4.wk (fun o ho => by unfold csm at ho; simp at ho; exact ho.1)
      have hS04 := hS3.tr hS4'
      rw [swF_cg hS3 csm_out]
      refine bX1_findCart_72 hi4 rfl rfl ?_
      rw [y4, show iI (i : Int) + 1 = iI ((i + 1 : Nat) : Int) from by rw [iI_lit 1, iI_add]; congr 1]
      refine ⟨y6, ih (i + 1) (by omega) _ (hS04.pI rfl _ _) (FdOk_cg (Sm.pI (S := fun o => o == 74) Sm.rf rfl _ _) (by intro d d1 d2; simp; omega) hfd4) ?_⟩
      have r36' : gI h3h (33 + 3) (3 * i + 1 + 1) = gI h 36 (3 * i + 1 + 1) := hS3.gI (o := 36) rfl _
      rw [r36']
      have conv1 : ∀ ax, gI h 36 (3 * i + 1 + ax) - iI (swF h 3 ax (tkF h 36 i)) = iI (wyF h i ax) := by
        intro ax
        conv => lhs; rw [← iI_self (gI h 36 (3 * i + 1 + ax)), iI_sub]
        rfl
      intro j hj ax hax
      rw [gI_pI]
      by_cases hji : j = i
      · subst hji
        rcases (show ax = 0 ∨ ax = 1 by omega) with rfl | rfl
        · rw [if_neg (by omega), hS4.gI (o := 74) rfl, hh3, gI_pI, if_pos ⟨rfl, rfl⟩]
          exact conv1 0
        · rw [if_pos ⟨rfl, rfl⟩]
          exact conv1 1
      · rw [if_neg (by omega), hS4.gI (o := 74) rfl, hh3, gI_pI, if_neg (by omega), hS2.gI (o := 74) rfl]
        exact hw j (by omega) ax hax
  exact first n 0 (by omega) h Sm.rf hfd (fun j hj => by omega)
theorem mX10_cart {n : Nat} {w : Int32} (hi : Iv h) (hf : FR h 3) (hfd : FdOk h 3) (hn : gI h 33 3 = iI n) (hp : PtR h 36 n) (kN : ¬ (0 ≤ w.toInt ∧ w.toInt ≤ 3) → Th eN h Q)
    (k : ∀ h', (0 ≤ w.toInt ∧ w.toInt ≤ 3) → Sm csm h h' → FdOk h' 3 → Q (.inl (some (.int (iI (caV (shw (tkF h 36) (wyF h) n) (wyF h) w))))) h') : WM G jX10_cart [.ref 0, .int w] h Q := by
  refine eX10_cart hi ?_
  rw [show (3 : Int32) = iI 3 from by decide]
  refine mX10_needWhat ⟨by decide, by decide⟩ hi (fun w1 w2 => ?_) kN
  refine bX10_cart_5 hi (mX1_findCart hi hf hfd hn hp (fun h1 hS1 hfd1 e4 e5 e6 e7 => ?_))
  have k' := k h1 ⟨w1, w2⟩ hS1 hfd1
  unfold caV at k'
  refine bX10_cart_20 (hS1.iv hi) ⟨fun c => ?_, fun c => ?_, fun c => ?_, fun c0 c1 c2 => ?_⟩
  · rw [if_pos c] at k'; rw [e4]; exact k'
  · rw [if_neg (by rw [c]; decide), if_pos c] at k'; rw [e5]; exact k'
  · rw [if_neg (by rw [c]; decide), if_neg (by rw [c]; decide), if_pos c] at k'; rw [e6]; exact k'
  · rw [if_neg c0, if_neg c1, if_neg c2] at k'; rw [e7]; exact k'
end CART2
