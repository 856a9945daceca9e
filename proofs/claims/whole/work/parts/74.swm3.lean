section SWM3
variable {G : GX} {h : mH} {Q : mO → mH → Prop}
/-- the model's frame holds what was read -/
def FN3 (s : SF) (g : mH) : Prop := gI g 83 1 = iI (s.1 : Nat) ∧ gI g 83 2 = iI (s.2.1 : Nat) ∧ (∀ a i, a < 3 → i < 4 → gI g (84 + a) i = iI (s.2.2.2 a i)) ∧ (∀ i, i < 12 → gI g 87 i = iI (s.2.2.2 3 i)) ∧ ∀ i, i < s.2.1 → gI g 88 (3 * i) = iI (s.2.2.2 4 i) ∧ ∀ ax, ax < 2 → gI g 88 (3 * i + 1 + ax) = iI (s.2.2.2 5 (2 * i + ax))
def smT (o k : Nat) : Bool := (o == 83 && (decide (k ≤ 2) || (decide (9 ≤ k ∧ k ≤ 23) || (k == 30 || (k == 33 || (k == 36 || (k == 40 || (k == 55)))))))) || (decide (84 ≤ o ∧ o ≤ 88) || (decide (91 ≤ o ∧ o ≤ 95) || (o == 104 && (k == 0))))
def smI (o k : Nat) : Bool := (o == 83 && (k == 0 || decide (9 ≤ k ∧ k ≤ 23))) || decide (91 ≤ o ∧ o ≤ 95)
def smF (o k : Nat) : Bool := smI o k || (o == 90 && (k == 0))
theorem mX11_swings {z : Nat → Int} {l : Nat} {v : Int32} (hi : Iv h) (hz : ZM z h) (hl : gI h 83 9 = iI l) (hl4 : l ≤ 400) (kI : ¬ (0 ≤ v.toInt ∧ v.toInt ≤ l) → Q (.inl (some (.int 0))) (pI (pI h 83 0 0) 83 0 1))
    (ky : ∀ g s, (0 ≤ v.toInt ∧ v.toInt ≤ l) → swR z v.toInt.toNat 401 s0F (rn cB z v.toInt.toNat 0) = .inr s → Cj smT h g → FN3 s g → gI g 83 0 = 0 → gI g 83 9 = 0 → gI g 83 11 = -1 → (gI g 83 30 = 0 ∧ gI g 83 33 = 0 ∧ gI g 83 36 = 0) → gI g 104 0 = 0 → gI g 83 40 = -1 → gI g 83 55 = 0 → Q (.inl (some (.int 0))) g)
    (kn : ∀ g w p, (0 ≤ v.toInt ∧ v.toInt ≤ l) → swR z v.toInt.toNat 401 s0F (rn cB z v.toInt.toNat 0) = .inl (w, p) → Cj smF h g → gI g 83 0 = 0 → gI g 83 9 = 0 → gI g 83 11 = iI (p : Nat) → gI g 90 0 = gI h 90 0 + 1 → Q (.inl (some (.int (iI (w : Nat))))) g) : WM G jX11_swings [.ref 83, .int v] h Q := by
  have hi0 : Iv (pI h 83 0 0) := hi
  have h00 : gI (pI h 83 0 0) 83 0 = 0 := by rw [gI_pI]; rfl
  have e9 : gI (pI h 83 0 0) 83 9 = iI l := by rw [gI_pI, if_neg (by omega)]; exact hl
  have no : ¬ (0 ≤ v.toInt ∧ v.toInt ≤ l) → WM G jX11_right [.ref 83, .int 0, .int 1] (pI h 83 0 0) (Aft G jX11_swings 24 [some (.ref 83), some (.int v), none] [] Q) := fun z => mX11_right0 hi0 h00 (by decide) (bX11_swings_27 (h := pI (pI h 83 0 0) 83 0 1) hi ⟨fun z => absurd rfl z, fun _ => kI z⟩)
  have l0 : v < 0 ↔ v.toInt < 0 := by rw [i32_0, i32_lt ⟨by decide, by decide⟩]
  have l1 : iI (l : Int) < v ↔ (l : Int) < v.toInt := i32_gt ⟨by omega, by omega⟩
  refine eX11_swings hi ?_
  rw [e9, l0, l1]
  refine ⟨fun c => no (by omega), fun c1 => ⟨fun c => no (by omega), fun c2 => mX11_right1 hi0 h00 (by decide) (bX11_swings_27 hi0 ⟨fun _ => ?_, fun z => absurd z (by decide)⟩)⟩⟩
  have hv : 0 ≤ v.toInt ∧ v.toInt ≤ l := by omega
  have ky' := fun g s => ky g s hv
  have kn' := fun g w p => kn g w p hv
  have ev := i32_nat hv.1
  have hn : v.toInt.toNat ≤ l := by omega
  clear ky kn kI no c1 c2 l0 l1 hv
  generalize v.toInt.toNat = n at *
  subst ev
  have fb := rn_b (p := cB) (z := z) (n := n) n 0 (by omega)
  generalize hg1 : pI (pI (pI (pI (pI (pI (pI (pI (pI h 83 0 0) 83 9 0) 83 11 (-1)) 83 10 0) 83 13 (iI n)) 83 14 0) 83 21 0) 83 22 0) 83 23 0 = g1
  have C1 : Cj smI h g1 := by rw [← hg1]; exact ((((((((Cj.rf.pI rfl _).pI rfl _).pI rfl _).pI rfl _).pI rfl _).pI rfl _).pI rfl _).pI rfl _).pI rfl _
  have p0 : gI g1 83 0 = 0 := by rw [← hg1]; simp [gI_pI]
  have p9 : gI g1 83 9 = 0 := by rw [← hg1]; simp [gI_pI]
  have p10 : gI g1 83 10 = 0 := by rw [← hg1]; simp [gI_pI]
  have p11 : gI g1 83 11 = -1 := by rw [← hg1]; simp [gI_pI]
  have p13 : gI g1 83 13 = iI n := by rw [← hg1]; simp [gI_pI]
  have p14 : gI g1 83 14 = iI ((0 : Nat) : Int) := by rw [← hg1]; simp [gI_pI]; exact n_0
  have p21 : gI g1 83 21 = iI ((0 : Nat) : Int) := by rw [← hg1]; simp [gI_pI]; exact n_0
  have p22 : gI g1 83 22 = iI ((0 : Nat) : Int) := by rw [← hg1]; simp [gI_pI]; exact n_0
  have p23 : gI g1 83 23 = 0 := by rw [← hg1]; simp [gI_pI]
  clear hg1
  -- rows 91..95 alone change in the next loops
  have L1 : ∀ (d q : Nat) (g : mH), q + d = 12 → Ce (fun o _ => decide (91 ≤ o ∧ o ≤ 95)) g1 g → (∀ i, i < q → gI g 94 i = 0) → (∀ g', Ce (fun o _ => decide (91 ≤ o ∧ o ≤ 95)) g1 g' → (∀ i, i < 12 → gI g' 94 i = 0) → Vw G jX11_swings 95 [some (.ref 83), none, some (.int (iI ((0 : Nat) : Int)))] [] g' Q) → Vw G jX11_swings 74 [some (.ref 83), none, some (.int (iI (q : Nat)))] [] g Q := by
    intro d
    induction d with
    | zero =>
      intro q g hq hC hd nx
      have : q = 12 := by omega
      subst this
      refine bX11_swings_74 (hC.iv (C1.iv hi)) ⟨fun _ => ?_, fun c => absurd (by decide) c⟩
      rw [n_0]
      exact nx g hC hd
    | succ d ih =>
      intro q g hq hC hd nx
      refine bX11_swings_74 (hC.iv (C1.iv hi)) ⟨fun c => ?_, fun _ => ?_⟩
      · rw [n_12, le_n (by omega) (by omega)] at c
        omega
      · rw [ix_n (by omega), n_1, ad_n]
        refine ⟨in_n (by omega) (by omega), ih (q + 1) _ (by omega) (hC.pI rfl _) (fun i hi' => ?_) nx⟩
        rw [gI_pI]
        by_cases c : i = q
        · rw [if_pos ⟨rfl, c⟩]
        · rw [if_neg (fun w => c w.2)]
          exact hd i (by omega)
  have L2 : ∀ (d q : Nat) (g : mH), q + d = 4 → Ce (fun o _ => decide (91 ≤ o ∧ o ≤ 95)) g1 g → (∀ i, i < 12 → gI g 94 i = 0) → (∀ i, i < q → gI g 91 i = 0 ∧ gI g 92 i = 2 ∧ gI g 93 i = 0) → (∀ g', Ce (fun o _ => decide (91 ≤ o ∧ o ≤ 95)) g1 g' → (∀ i, i < 12 → gI g' 94 i = 0) → (∀ i, i < 4 → gI g' 91 i = 0 ∧ gI g' 92 i = 2 ∧ gI g' 93 i = 0) → WM G jX11_steps [.ref 83] g' (Aft G jX11_swings 128 [some (.ref 83), none, none] [] Q)) → Vw G jX11_swings 95 [some (.ref 83), none, some (.int (iI (q : Nat)))] [] g Q := by
    intro d
    induction d with
    | zero =>
      intro q g hq hC hd h3 nx
      have : q = 4 := by omega
      subst this
      exact bX11_swings_95 (hC.iv (C1.iv hi)) ⟨fun _ => nx g hC hd h3, fun c => absurd (by decide) c⟩
    | succ d ih =>
      intro q g hq hC hd h3 nx
      refine bX11_swings_95 (hC.iv (C1.iv hi)) ⟨fun c => ?_, fun _ => ?_⟩
      · rw [n_4, le_n (by omega) (by omega)] at c
        omega
      · rw [ix_n (by omega), n_1, ad_n]
        refine ⟨in_n (by omega) (by omega), in_n (by omega) (by omega), in_n (by omega) (by omega), ih (q + 1) _ (by omega) (((hC.pI rfl _).pI rfl _).pI rfl _) (fun i hi' => ?_) (fun i hi' => ?_) nx⟩
        · rw [gI_pI, if_neg (by omega), gI_pI, if_neg (by omega), gI_pI, if_neg (by omega)]
          exact hd i hi'
        · by_cases c : i = q
          · subst c
            refine ⟨?_, ?_, ?_⟩
            · rw [gI_pI, if_neg (by omega), gI_pI, if_neg (by omega), gI_pI, if_pos ⟨rfl, rfl⟩]
            · rw [gI_pI, if_neg (by omega), gI_pI, if_pos ⟨rfl, rfl⟩]
            · rw [gI_pI, if_pos ⟨rfl, rfl⟩]
          · obtain ⟨x1, x2, x3⟩ := h3 i (by omega)
            refine ⟨?_, ?_, ?_⟩
            · rw [gI_pI, if_neg (by omega), gI_pI, if_neg (by omega), gI_pI, if_neg (by omega)]; exact x1
            · rw [gI_pI, if_neg (by omega), gI_pI, if_neg (by omega), gI_pI, if_neg (by omega)]; exact x2
            · rw [gI_pI, if_neg (by omega), gI_pI, if_neg (by omega), gI_pI, if_neg (by omega)]; exact x3
  rw [n_0]
  refine L1 12 0 g1 (by omega) Ce.rf (fun i hi' => absurd hi' (by omega)) (fun g2 D2 d2 => L2 4 0 g2 (by omega) D2 d2 (fun i hi' => absurd hi' (by omega)) (fun g3 D3 d3 e3 => ?_))
  have w3 : ∀ k, gI g3 83 k = gI g1 83 k := fun k => D3.2.2 83 k rfl
  have C3 : Cj smI h g3 := C1.tr (D3.cj.wk (fun o k ho => by unfold smI at ho; simp at ho ⊢; omega))
  have i3 := C3.iv hi
  have z3 : ZM z g3 := ZM_c C3 (fun k => rfl) hz
  have F3 : FN s0F g3 := by
    refine ⟨by rw [w3]; exact p21, by rw [w3]; exact p22, by rw [w3]; exact p23, fun a i ha hi4 => ?_, fun i hi12 => ?_, fun i hic => absurd hic (Nat.not_lt_zero i)⟩
    · obtain ⟨x1, x2, x3⟩ := e3 i hi4
      rcases (show a = 0 ∨ a = 1 ∨ a = 2 from by omega) with rfl | rfl | rfl
      · exact x1.trans i32_0
      · refine Eq.trans x2 ?_
        show (2 : Int32) = iI 2
        decide
      · exact x3.trans i32_0
    · rw [d3 i hi12]; exact i32_0
  refine mX11_steps (n := n) i3 z3 (by omega) (Nat.zero_le _) (by rw [w3]; exact p13) (by rw [w3]; exact p14) (fun g4 C4 t4 => ?_)
  have C4' : Cj smI h g4 := C3.tr (C4.wk (fun o k ho => by unfold smI at ho; unfold smS; simp at ho ⊢; omega))
  have w4 : ∀ k, (k ≤ 13 ∨ 20 ≤ k) → gI g4 83 k = gI g1 83 k := fun k hk => by rw [C4.2.2.2 83 k (by unfold smS; simp; omega), w3]
  have F4 : FN s0F g4 := FN_c (sm_nm C4) nm_95 F3
  -- the lines
  have main : ∀ (d : Nat) (s : SF) (f : Nat) (g : mH), n + 1 ≤ f + d → f ≤ n → SR s → Cj myS g4 g → gI g 83 10 = 0 → TM z n f g → FN s g → (∀ r, swR z n d s f = r → swR z n 401 s0F (rn cB z n 0) = r) → Vw G jX11_swings 131 [some (.ref 83), none, none] [] g Q := by
    have fin : ∀ (s : SF) (g : mH), swR z n 401 s0F (rn cB z n 0) = .inr s → SR s → Cj myS g4 g → gI g 83 10 = 0 → FN s g → Vw G jX11_swings 152 [some (.ref 83), none, none] [] g Q := by
      intro s g hr hs C b F
      have gi := C.iv (C4'.iv hi)
      obtain ⟨a1, a2, a0, a3, a4, a5⟩ := F
      refine bX11_swings_152 gi ⟨fun _ => ?_, fun c => absurd b (good_b.mp c)⟩
      rw [a1, show gI (pI g 83 1 (iI (s.1 : Nat))) 83 22 = iI (s.2.1 : Nat) from by rw [gI_pI, if_neg (by omega)]; exact a2]
      generalize hgA : pI (pI g 83 1 (iI (s.1 : Nat))) 83 2 (iI (s.2.1 : Nat)) = gA
      have DA : Ce (fun o k => o == 83 && (k == 1 || (k == 2))) g gA := by rw [← hgA]; exact (Ce.rf.pI rfl _).pI rfl _
      have iA := DA.iv gi
      have qA1 : gI gA 83 1 = iI (s.1 : Nat) := by rw [← hgA, gI_pI, if_neg (by omega), gI_pI, if_pos ⟨rfl, rfl⟩]
      have qA2 : gI gA 83 2 = iI (s.2.1 : Nat) := by rw [← hgA, gI_pI, if_pos ⟨rfl, rfl⟩]
      clear hgA
      have oA : ∀ o k, o ≠ 83 → gI gA o k = gI g o k := fun o k ho => DA.2.2 o k (by simp [ho])
      refine mX11_copies iA (a := 91) (b := 84) (n := 4) rfl rfl (by omega) (by omega) (fun gB SB qB => ?_)
      have iB := SB.iv iA
      refine bX11_swings_202 iB (mX11_copies iB (a := 92) (b := 85) (n := 4) rfl rfl (by omega) (by omega) (fun gC SC qC => ?_))
      have iC := SC.iv iB
      refine bX11_swings_214 iC (mX11_copies iC (a := 93) (b := 86) (n := 4) rfl rfl (by omega) (by omega) (fun gD SD qD => ?_))
      have iD := SD.iv iC
      refine bX11_swings_226 iD (mX11_copies iD (a := 94) (b := 87) (n := 12) rfl rfl (by omega) (by omega) (fun gE SE qE => ?_))
      have iE := SE.iv iD
      refine bX11_swings_238 iE (mX11_copies iE (a := 95) (b := 88) (n := 12) rfl rfl (by omega) (by omega) (fun gF SF' qF => ?_))
      have iF := SF'.iv iE
      refine bX11_swings_250 iF ?_
      generalize hgZ : pI (pI (pI (pI (pI (pI gF 83 30 0) 83 33 0) 83 36 0) 83 40 (-1)) 104 0 0) 83 55 0 = gZ
      have oF : ∀ o k, (o < 84 ∨ 88 < o) → gI gF o k = gI gA o k := fun o k ho => by
        rw [SF'.gI (o := o) (by simp; omega), SE.gI (o := o) (by simp; omega), SD.gI (o := o) (by simp; omega), SC.gI (o := o) (by simp; omega), SB.gI (o := o) (by simp; omega)]
      have oZ : ∀ o k, o ≠ 83 → o ≠ 104 → gI gZ o k = gI gF o k := fun o k h1 h2 => by
        rw [← hgZ, gI_pI, if_neg (by omega), gI_pI, if_neg (by omega), gI_pI, if_neg (by omega), gI_pI, if_neg (by omega), gI_pI, if_neg (by omega), gI_pI, if_neg (by omega)]
      have fZ : ∀ k, k ≠ 30 → k ≠ 33 → k ≠ 36 → k ≠ 40 → k ≠ 55 → gI gZ 83 k = gI gA 83 k := fun k h1 h2 h3 h4 h5 => by
        rw [← hgZ, gI_pI, if_neg (by omega), gI_pI, if_neg (by omega), gI_pI, if_neg (by omega), gI_pI, if_neg (by omega), gI_pI, if_neg (by omega), gI_pI, if_neg (by omega), oF 83 k (by omega)]
      have wA : ∀ k, k ≠ 1 → k ≠ 2 → gI gA 83 k = gI g 83 k := fun k h1 h2 => DA.2.2 83 k (by simp; omega)
      have wg : ∀ k, myS 83 k = false → gI g 83 k = gI g4 83 k := fun k hk => C.2.2.2 83 k hk
      refine ky' gZ s hr ?_ ?_ ?_ ?_ ?_ ⟨?_, ?_, ?_⟩ ?_ ?_ ?_
      · have CZ : Cj smT gA gZ := by
          rw [← hgZ]
          refine (((((Cj.pI (Cj.tr (Cj.tr (Cj.tr (Cj.tr (Ce.sm SB ?_).cj (Ce.sm SC ?_).cj) (Ce.sm SD ?_).cj) (Ce.sm SE ?_).cj) (Ce.sm SF' ?_).cj) rfl _).pI rfl _).pI rfl _).pI rfl _).pI rfl _).pI rfl _
          all_goals (intro o k ho; unfold smT at ho; simp at ho ⊢; omega)
        refine Cj.tr (Cj.tr (Cj.tr (C4'.wk (fun o k ho => ?_)) (C.wk (fun o k ho => ?_))) (DA.cj.wk (fun o k ho => ?_))) CZ
        · unfold smT at ho; unfold smI; simp at ho ⊢; omega
        · unfold smT at ho; unfold myS smS; simp at ho ⊢; omega
        · unfold smT at ho; simp at ho ⊢; omega
      · refine ⟨by rw [fZ 1 (by omega) (by omega) (by omega) (by omega) (by omega)]; exact qA1, by rw [fZ 2 (by omega) (by omega) (by omega) (by omega) (by omega)]; exact qA2, fun a i ha hi4 => ?_, fun i hi12 => ?_, fun i hic => ⟨?_, fun ax hax => ?_⟩⟩
        · rw [oZ (84 + a) i (by omega) (by omega)]
          rcases (show a = 0 ∨ a = 1 ∨ a = 2 from by omega) with rfl | rfl | rfl
          · rw [SF'.gI (o := 84 + 0) rfl, SE.gI (o := 84 + 0) rfl, SD.gI (o := 84 + 0) rfl, SC.gI (o := 84 + 0) rfl]
            refine (qB i hi4).trans ?_
            rw [oA 91 i (by omega)]; exact a3 0 i (by omega) hi4
          · rw [SF'.gI (o := 84 + 1) rfl, SE.gI (o := 84 + 1) rfl, SD.gI (o := 84 + 1) rfl]
            refine (qC i hi4).trans ?_
            rw [SB.gI (o := 92) rfl, oA 92 i (by omega)]; exact a3 1 i (by omega) hi4
          · rw [SF'.gI (o := 84 + 2) rfl, SE.gI (o := 84 + 2) rfl]
            refine (qD i hi4).trans ?_
            rw [SC.gI (o := 93) rfl, SB.gI (o := 93) rfl, oA 93 i (by omega)]; exact a3 2 i (by omega) hi4
        · rw [oZ 87 i (by omega) (by omega), SF'.gI (o := 87) rfl, qE i hi12, SD.gI (o := 94) rfl, SC.gI (o := 94) rfl, SB.gI (o := 94) rfl, oA 94 i (by omega)]
          exact a4 i hi12
        · have h4 := hs.2.1
          rw [oZ 88 _ (by omega) (by omega), qF _ (by omega), SE.gI (o := 95) rfl, SD.gI (o := 95) rfl, SC.gI (o := 95) rfl, SB.gI (o := 95) rfl, oA 95 _ (by omega)]
          exact (a5 i hic).1
        · have h4 := hs.2.1
          rw [oZ 88 _ (by omega) (by omega), qF _ (by omega), SE.gI (o := 95) rfl, SD.gI (o := 95) rfl, SC.gI (o := 95) rfl, SB.gI (o := 95) rfl, oA 95 _ (by omega)]
          exact (a5 i hic).2 ax hax
      · rw [fZ 0 (by omega) (by omega) (by omega) (by omega) (by omega), wA 0 (by omega) (by omega), wg 0 rfl, w4 0 (by omega)]; exact p0
      · rw [fZ 9 (by omega) (by omega) (by omega) (by omega) (by omega), wA 9 (by omega) (by omega), wg 9 rfl, w4 9 (by omega)]; exact p9
      · rw [fZ 11 (by omega) (by omega) (by omega) (by omega) (by omega), wA 11 (by omega) (by omega), wg 11 rfl, w4 11 (by omega)]; exact p11
      · rw [← hgZ]; simp [gI_pI]
      · rw [← hgZ]; simp [gI_pI]
      · rw [← hgZ]; simp [gI_pI]
      · rw [← hgZ]; simp [gI_pI]
      · rw [← hgZ]; simp [gI_pI]
      · rw [← hgZ]; simp [gI_pI]
    have bad : ∀ (w p : Nat) (g : mH), swR z n 401 s0F (rn cB z n 0) = .inl (w, p) → Cj mxS g4 g → FM g w p → Vw G jX11_swings 152 [some (.ref 83), none, none] [] g Q := by
      intro w p g hr C F
      have gi := C.iv (C4'.iv hi)
      obtain ⟨w1, w9⟩ := swR_w _ _ _ _ _ hr
      refine bX11_swings_152 gi ⟨fun c => absurd (good_b.mpr (FM_bad F (by omega) w9)) c, fun _ => ?_⟩
      have q : gI (pI g 90 0 (gI g 90 0 + 1)) 83 10 = iI (w : Nat) := by rw [gI_pI, if_neg (by omega)]; exact F.1
      rw [q]
      have wg : ∀ k, mxS 83 k = false → gI g 83 k = gI g4 83 k := fun k hk => C.2.2.2 83 k hk
      refine kn' _ w p hr ?_ ?_ ?_ ?_ ?_
      · refine Cj.pI (Cj.tr (C4'.wk (fun o k ho => ?_)) (C.wk (fun o k ho => ?_))) rfl _
        · unfold smF at ho; rw [Bool.or_eq_false_iff] at ho; exact ho.1
        · unfold smF smI at ho; unfold mxS nmS; simp at ho ⊢; omega
      · rw [gI_pI, if_neg (by omega), wg 0 rfl, w4 0 (by omega)]; exact p0
      · rw [gI_pI, if_neg (by omega), wg 9 rfl, w4 9 (by omega)]; exact p9
      · rw [gI_pI, if_neg (by omega)]; exact F.2
      · rw [gI_pI, if_pos ⟨rfl, rfl⟩, C.2.2.2 90 0 rfl, C4'.2.2.2 90 0 rfl]
    intro d
    induction d with
    | zero => intro s f g hd hf; omega
    | succ d ih =>
      intro s f g hd hf hs C b t F hr
      have gi := C.iv (C4'.iv hi)
      have zg : ZM z g := ZM_c C my_89 (ZM_c C4' (fun k => rfl) hz)
      have kc := kdT_c (z := z) (n := n) (f := f)
      have so0 : gI g 83 15 = 0 ↔ n ≤ f := by
        rw [t.2.2.1, n_0]
        have sob : soT z n f ≤ 4 := by
          unfold soT
          split
          · split <;> omega
          · have := kc.2.2.2.2; omega
        rw [eq_n (by omega) (by omega), ← kc.1]
        unfold soT
        split
        · rename_i c
          rw [c]
          split <;> omega
        · exact Iff.rfl
      refine bX11_swings_131 gi ⟨fun c => absurd b (good_b.mp c), fun _ => ?_⟩
      rw [so0]
      refine ⟨fun c => fin s g (hr _ (by unfold swR; rw [if_pos c])) hs C b F, fun c => ?_⟩
      have hsw : swR z n (d + 1) s f = bnd (bnd (rLin z n s f) (rSem z n)) fun r => swR z n d r.1 r.2 := by
        conv => lhs; unfold swR
        rw [if_neg c]
      refine mX11_line gi zg (by omega) hf t b hs (by omega) F ⟨fun g' a ra C' b' o => ?_, fun g' w p ra C' F' => ?_⟩
      · refine bX11_swings_149 (C'.iv gi) ?_
        obtain ⟨q, hq, hq2⟩ := bnd_r ra
        obtain ⟨x1, x2⟩ := rSem_r hq2
        obtain ⟨y1, y2, y3⟩ := rLin_r (s' := q.1) (f' := q.2) (by omega) hs hq
        have l := adT_lt (z := z) (n := n) (f := q.2) (sgT_f x1)
        subst x2
        refine ih q.1 (adT z n q.2) g' ?_ l.2 y1 (C.tr C') b' o.1 o.2 (fun r h2 => hr r ?_)
        · omega
        · rw [hsw, ra]
          exact h2
      · refine bX11_swings_149 (C'.iv gi) (bX11_swings_131 (C'.iv gi) ⟨fun _ => bad w p g' (hr _ (by rw [hsw, ra]; rfl)) ((my_mx C).tr C') F', fun c2 => ?_⟩)
        have hw : w ≠ 0 ∧ w ≤ 9 := by
          have := swR_w 401 s0F (rn cB z n 0) w p (hr _ (by rw [hsw, ra]; rfl))
          omega
        exact absurd (good_b.mpr (FM_bad F' hw.1 hw.2)) c2
  exact main 401 s0F (rn cB z n 0) g4 (by omega) fb.2.1 s0_SR Cj.rf (by rw [w4 10 (by omega)]; exact p10) t4 F4 (fun r h2 => h2)
end SWM3
