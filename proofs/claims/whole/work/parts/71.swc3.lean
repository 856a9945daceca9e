section SWC3
variable {G : GX} {h : mH} {Q : mO → mH → Prop}
/-- frame 3 holds what was read -/
def FC3 (s : SF) (g : mH) : Prop := gI g 3 4 = iI (s.1 : Nat) ∧ gI g 3 5 = iI (s.2.1 : Nat) ∧ (∀ a i, a < 3 → i < 4 → gI g (4 + a) i = iI (s.2.2.2 a i)) ∧ (∀ i, i < 12 → gI g 7 i = iI (s.2.2.2 3 i)) ∧ ∀ i, i < s.2.1 → gI g 8 i = iI (s.2.2.2 4 i) ∧ ∀ ax, ax < 2 → gI g 9 (2 * i + ax) = iI (s.2.2.2 5 (2 * i + ax))
def etS (o k : Nat) : Bool := (o == 1 && (k == 1)) || ((o == 0 && (k == 16)) || (o == 82 && (k == 0)))
theorem mX10_endOfText {w : Nat} (hi : Iv h) (hw : gI h 1 2 = iI w) (hw9 : w ≤ 9) (k : ∀ g, Ce etS h g → gI g 1 1 = 0 → gI g 0 16 = gI h 0 16 + 1 → gI g 82 0 = (if w = 0 then gI h 82 0 else gI h 82 0 + 1) → Q (.inl (some (.int (iI w)))) g) : WM G jX10_endOfText [.ref 0] h Q := by
  have e16 : gI (pI h 1 1 0) 0 16 = gI h 0 16 := by rw [gI_pI, if_neg (by omega)]
  refine eX10_endOfText hi ?_
  rw [e16]
  generalize hg : pI (pI h 1 1 0) 0 16 (gI h 0 16 + 1) = g
  have C : Ce etS h g := by rw [← hg]; exact (Ce.rf.pI rfl _).pI rfl _
  have q2 : gI g 1 2 = iI w := by rw [← hg, gI_pI, if_neg (by omega), gI_pI, if_neg (by omega)]; exact hw
  have q1 : gI g 1 1 = 0 := by rw [← hg, gI_pI, if_neg (by omega), gI_pI, if_pos ⟨rfl, rfl⟩]
  have q16 : gI g 0 16 = gI h 0 16 + 1 := by rw [← hg, gI_pI, if_pos ⟨rfl, rfl⟩]
  have q82 : gI g 82 0 = gI h 82 0 := by rw [← hg, gI_pI, if_neg (by omega), gI_pI, if_neg (by omega)]
  clear hg
  have r2 : ∀ v, gI (pI g 82 0 v) 1 2 = iI w := fun v => by rw [gI_pI, if_neg (by omega)]; exact q2
  rw [r2, q2, q82, n_0, eq_n (by omega) (by omega)]
  refine ⟨fun c => k g C q1 q16 (by rw [if_pos c]; exact q82), fun c => k _ (C.pI rfl _) ?_ ?_ ?_⟩
  · rw [gI_pI, if_neg (by omega)]; exact q1
  · rw [gI_pI, if_neg (by omega)]; exact q16
  · rw [gI_pI, if_pos ⟨rfl, rfl⟩, if_neg c]
def swS (rA o k : Nat) : Bool := (o == 1) || (mr 13 o || (mr 3 o || ((o == 33 && (k == 1 || (k == 3 || (k == 5)))) || ((o == rA && (k == 4)) || ((o == 75 && (k == 1 || (k == 2))) || (o == 0 && (k == 6 || (k == 16))))))))
def swG (o k : Nat) : Bool := (o == 1) || (mr 13 o || ((o == 82 && (k == 0)) || (o == 0 && (k == 16))))
theorem mX10_swings {z : Nat → Int} {l rA : Nat} {v : Int32} (hi : Iv h) (hz : ZC z h) (hl : gI h 1 1 = iI l) (hl4 : l ≤ 400) (hA : gR h 0 7 = .ref rA) (hrA : rA = 43 ∨ rA = 49) (kI : ¬ (0 ≤ v.toInt ∧ v.toInt ≤ l) → Th eI h Q)
    (ky : ∀ g s, (0 ≤ v.toInt ∧ v.toInt ≤ l) → swR z v.toInt.toNat 401 s0F (rn cB z v.toInt.toNat 0) = .inr s → Ce (swS rA) h g → FC3 s g → gI g 1 1 = 0 → gI g 1 3 = -1 → (gI g 33 1 = 0 ∧ gI g 33 3 = 0 ∧ gI g 33 5 = 0) → gI g rA 4 = 0 → gI g 75 1 = 0 → gI g 0 6 = 0 → gI g 0 16 = gI h 0 16 + 1 → Q (.inl (some (.int (iI ((0 : Nat) : Int))))) g)
    (kn : ∀ g w p, (0 ≤ v.toInt ∧ v.toInt ≤ l) → swR z v.toInt.toNat 401 s0F (rn cB z v.toInt.toNat 0) = .inl (w, p) → w ≠ 0 → Ce swG h g → gI g 1 1 = 0 → gI g 1 3 = iI (p : Nat) → gI g 82 0 = gI h 82 0 + 1 → gI g 0 16 = gI h 0 16 + 1 → Q (.inl (some (.int (iI (w : Nat))))) g)
    (hw9 : ∀ w p, swR z v.toInt.toNat 401 s0F (rn cB z v.toInt.toNat 0) = .inl (w, p) → 1 ≤ w ∧ w ≤ 9) : WM G jX10_swings [.ref 0, .int v] h Q := by
  have hll : (gI h 1 1).toInt = l := by rw [hl, iI_toInt ⟨by omega, by omega⟩]
  refine eX10_swings hi (mX10_needBytes hi (fun v1 v2 => ?_) (fun c => kI (fun w => c ⟨w.1, by rw [hll]; exact w.2⟩)))
  rw [hll] at v2
  have ky' := fun g s => ky g s ⟨v1, v2⟩
  have kn' := fun g w p => kn g w p ⟨v1, v2⟩
  clear ky kn kI
  have ev := i32_nat v1
  have hn : v.toInt.toNat ≤ l := by omega
  generalize v.toInt.toNat = n at *
  subst ev
  have fb := rn_b (p := cB) (z := z) (n := n) n 0 (by omega)
  refine bX10_swings_5 hi (mX9_begin hi hz hl hl4 hn (fun g1 C1 t1 q2 q3 => ?_))
  have i1 := C1.iv hi
  have z1 : ZC z g1 := ZC_c C1 (fun k => rfl) hz
  have bg1 : ∀ {S : Nat → Nat → Bool}, (∀ k, S 1 k = true) → Ce S h g1 := fun hS => C1.wk (fun o k ho => by
    unfold bgS
    by_cases c : o = 1
    · subst c; rw [hS k] at ho; cases ho
    · simp [c])
  refine bX10_swings_13 i1 (mX8_read i1 z1 (by omega) fb.2.1 t1 (fun g2 s hs C2 F2 => ?_) (fun g2 w p hs C2 g22 g23 => ?_))
  · have i2 := C2.iv i1
    refine bX10_swings_24 i2 ⟨fun c => absurd c (by decide), fun _ => mX2_copy (.inr (.inl ⟨rfl, rfl⟩)) i2 (fun g3 S3 F3 => ?_)⟩
    have i3 := S3.iv i2
    have kA : kd rA = (7, 7) := by rcases hrA with rfl | rfl <;> rfl
    refine bX10_swings_38 i3 (eX3_clear i3 rfl (bX10_swings_45 (h := pI (pI (pI g3 33 1 0) 33 3 0) 33 5 0) (rA7 := rA) i3 ?_ kA (eX0_clear (h := pI (pI (pI (pI g3 33 1 0) 33 3 0) 33 5 0) rA 4 0) i3 (bX10_swings_60 (h := pI (pI (pI (pI (pI (pI g3 33 1 0) 33 3 0) 33 5 0) rA 4 0) 75 1 0) 75 2 0) i3 ?_))))
    · show g3.2.2.2 0 7 = _
      rw [S3.gR]
      show g2.2.2.2 0 7 = _
      rw [C2.2.1]
      show g1.2.2.2 0 7 = _
      rw [C1.2.1]
      exact hA
    · generalize hg4 : pI (pI (pI (pI (pI (pI (pI g3 33 1 0) 33 3 0) 33 5 0) rA 4 0) 75 1 0) 75 2 0) 0 6 0 = g4
      have C4 : Ce (swS rA) h g4 := by
        rw [← hg4]
        refine Ce.pI (Ce.pI (Ce.pI (Ce.pI (Ce.pI (Ce.pI (Ce.pI (((bg1 (fun _ => rfl)).tr (C2.wk (fun o k ho => ?_))).tr (Ce.sm S3 (fun o k ho => ?_))) ?_ _) ?_ _) ?_ _) ?_ _) ?_ _) ?_ _) ?_ _
        · unfold swS at ho
          unfold syS tsS
          simp at ho ⊢
          exact ⟨fun e => absurd e ho.1, ho.2.1⟩
        · unfold swS at ho
          simp at ho
          exact ho.2.2.1
        all_goals (unfold swS; simp)
      have i4 := C4.iv hi
      have hA33 : rA ≠ 33 ∧ rA ≠ 75 ∧ rA ≠ 0 ∧ rA ≠ 1 ∧ (rA < 3 ∨ 9 < rA) := by omega
      have w : ∀ o k, o ≠ 33 → o ≠ rA → o ≠ 75 → o ≠ 0 → gI g4 o k = gI g3 o k := fun o k a1 a2 a3 a4 => by
        rw [← hg4, gI_pI, if_neg (by omega), gI_pI, if_neg (by omega), gI_pI, if_neg (by omega), gI_pI, if_neg (by omega), gI_pI, if_neg (by omega), gI_pI, if_neg (by omega), gI_pI, if_neg (by omega)]
      have q33 : gI g4 33 1 = 0 ∧ gI g4 33 3 = 0 ∧ gI g4 33 5 = 0 := by
        refine ⟨?_, ?_, ?_⟩
        · rw [← hg4, gI_pI, if_neg (by omega), gI_pI, if_neg (by omega), gI_pI, if_neg (by omega), gI_pI, if_neg (by omega), gI_pI, if_neg (by omega), gI_pI, if_neg (by omega), gI_pI, if_pos ⟨rfl, rfl⟩]
        · rw [← hg4, gI_pI, if_neg (by omega), gI_pI, if_neg (by omega), gI_pI, if_neg (by omega), gI_pI, if_neg (by omega), gI_pI, if_neg (by omega), gI_pI, if_pos ⟨rfl, rfl⟩]
        · rw [← hg4, gI_pI, if_neg (by omega), gI_pI, if_neg (by omega), gI_pI, if_neg (by omega), gI_pI, if_neg (by omega), gI_pI, if_pos ⟨rfl, rfl⟩]
      have qA : gI g4 rA 4 = 0 := by rw [← hg4, gI_pI, if_neg (by omega), gI_pI, if_neg (by omega), gI_pI, if_neg (by omega), gI_pI, if_pos ⟨rfl, rfl⟩]
      have q75 : gI g4 75 1 = 0 := by rw [← hg4, gI_pI, if_neg (by omega), gI_pI, if_neg (by omega), gI_pI, if_pos ⟨rfl, rfl⟩]
      have q06 : gI g4 0 6 = 0 := by rw [← hg4, gI_pI, if_pos ⟨rfl, rfl⟩]
      have q016 : gI g4 0 16 = gI h 0 16 := by
        rw [← hg4, gI_pI, if_neg (by omega), gI_pI, if_neg (by omega), gI_pI, if_neg (by omega), gI_pI, if_neg (by omega), gI_pI, if_neg (by omega), gI_pI, if_neg (by omega), gI_pI, if_neg (by omega), S3.gI (o := 0) rfl, C2.2.2 0 16 rfl, C1.2.2 0 16 rfl]
      have q12 : gI g4 1 2 = iI ((0 : Nat) : Int) := by rw [w 1 2 (by omega) (by omega) (by omega) (by omega), S3.gI (o := 1) rfl, C2.2.2 1 2 rfl, q2]; exact n_0
      have q13 : gI g4 1 3 = -1 := by rw [w 1 3 (by omega) (by omega) (by omega) (by omega), S3.gI (o := 1) rfl, C2.2.2 1 3 rfl, q3]
      have F4 : FC3 s g4 := by
        obtain ⟨b1, b2, b3, b4, b5⟩ := F2
        obtain ⟨d1, d2, d3, d4, d5⟩ := F3
        refine ⟨?_, ?_, fun y i hy hi4 => ?_, fun i hi12 => ?_, fun i hic => ⟨?_, fun ax hax => ?_⟩⟩
        · rw [w 3 4 (by omega) (by omega) (by omega) (by omega), d4]; exact b1
        · rw [w 3 5 (by omega) (by omega) (by omega) (by omega), d5]; exact b2
        · rw [w (4 + y) i (by omega) (by omega) (by omega) (by omega)]
          obtain ⟨e1, e2, e3, e4⟩ := d1 i hi4
          rcases (show y = 0 ∨ y = 1 ∨ y = 2 from by omega) with rfl | rfl | rfl
          · exact e1.trans (b3 0 i (by omega) hi4)
          · exact e2.trans (b3 1 i (by omega) hi4)
          · exact e3.trans (b3 2 i (by omega) hi4)
        · rw [w 7 i (by omega) (by omega) (by omega) (by omega)]
          exact (d2 i hi12).trans (b4 i hi12)
        · rw [w 8 i (by omega) (by omega) (by omega) (by omega)]
          have h4 := (swR_r 401 s0F s (rn cB z n 0) fb.2.1 s0_SR hs).2.1
          exact (d1 i (by omega)).2.2.2.trans (b5 i hic).1
        · rw [w 9 _ (by omega) (by omega) (by omega) (by omega)]
          have h4 := (swR_r 401 s0F s (rn cB z n 0) fb.2.1 s0_SR hs).2.1
          exact (d3 (2 * i + ax) (by omega)).trans ((b5 i hic).2 ax hax)
      clear hg4
      refine bX10_swings_65 i4 (mX10_endOfText i4 q12 (by omega) (fun g5 C5 e1 e16 e82 => bX10_swings_69 (C5.iv i4) ?_))
      have C5' : Ce (swS rA) h g5 := by
        refine ⟨C5.1.trans C4.1, C5.2.1.trans C4.2.1, fun o k ho => ?_⟩
        rw [if_pos rfl] at e82
        by_cases c : o = 82 ∧ k = 0
        · obtain ⟨rfl, rfl⟩ := c
          rw [e82]; exact C4.2.2 82 0 ho
        · rw [C5.2.2 o k ?_]
          · exact C4.2.2 o k ho
          · unfold swS at ho
            unfold etS
            simp at ho ⊢
            refine ⟨fun e => absurd e ho.1, fun e => ?_, fun e e2 => c ⟨e, e2⟩⟩
            have := ho.2.2.2.2.2.2 e
            exact this.2
      have w5 : ∀ o k, etS o k = false → gI g5 o k = gI g4 o k := fun o k ho => C5.2.2 o k ho
      refine ky' g5 s hs C5' ?_ e1 ?_ ⟨?_, ?_, ?_⟩ ?_ ?_ ?_ ?_
      · obtain ⟨b1, b2, b3, b4, b5⟩ := F4
        have et : ∀ o k, 3 ≤ o → o ≤ 9 → etS o k = false := fun o k h1 h2 => by unfold etS; simp; omega
        exact ⟨by rw [w5 3 4 (et _ _ (by omega) (by omega))]; exact b1, by rw [w5 3 5 (et _ _ (by omega) (by omega))]; exact b2, fun y i hy hi4 => by rw [w5 _ _ (et _ _ (by omega) (by omega))]; exact b3 y i hy hi4, fun i hi12 => by rw [w5 _ _ (et _ _ (by omega) (by omega))]; exact b4 i hi12, fun i hic => ⟨by rw [w5 _ _ (et _ _ (by omega) (by omega))]; exact (b5 i hic).1, fun ax hax => by rw [w5 _ _ (et _ _ (by omega) (by omega))]; exact (b5 i hic).2 ax hax⟩⟩
      · rw [w5 1 3 rfl]; exact q13
      · rw [w5 33 1 rfl]; exact q33.1
      · rw [w5 33 3 rfl]; exact q33.2.1
      · rw [w5 33 5 rfl]; exact q33.2.2
      · rw [w5 rA 4 (by rcases hrA with rfl | rfl <;> rfl)]; exact qA
      · rw [w5 75 1 rfl]; exact q75
      · rw [w5 0 6 rfl]; exact q06
      · rw [e16, q016]
  · have i2 := C2.iv i1
    obtain ⟨w1, w9⟩ := hw9 w p hs
    refine bX10_swings_24 i2 ⟨fun _ => bX10_swings_65 i2 (mX10_endOfText i2 g22 w9 (fun g5 C5 e1 e16 e82 => bX10_swings_69 (C5.iv i2) ?_)), fun c => absurd rfl c⟩
    refine kn' g5 w p hs (by omega) ?_ e1 ?_ ?_ ?_
    · refine ((bg1 (fun _ => rfl)).tr (C2.wk (fun o k ho => ?_))).tr (C5.wk (fun o k ho => ?_))
      · unfold swG at ho
        unfold sxS tkS
        simp at ho ⊢
        exact ⟨fun e => absurd e ho.1, ho.2.1⟩
      · unfold swG at ho
        unfold etS
        simp at ho ⊢
        exact ⟨fun e => absurd e ho.1, ho.2.2.2, ho.2.2.1⟩
    · rw [C5.2.2 1 3 rfl]; exact g23
    · rw [e82, if_neg (by omega), C2.2.2 82 0 rfl, C1.2.2 82 0 rfl]
    · rw [e16, C2.2.2 0 16 rfl, C1.2.2 0 16 rfl]
end SWC3
