section SCC5
variable {G : GX} {h : mH} {Q : mO → mH → Prop} {z : Nat → Int} {n : Nat}
/-- faults' kinds -/
def kOk {α : Type} (x : (Nat × Nat) ⊕ α) : Prop := ∀ w p, x = .inl (w, p) → 1 ≤ w ∧ w ≤ 2
theorem kOk_r {α : Type} {a : α} : kOk (.inr a) := fun _ _ e => by cases e
theorem kOk_l {α : Type} {w p : Nat} (h1 : 1 ≤ w) (h2 : w ≤ 2) : kOk (.inl (w, p) : (Nat × Nat) ⊕ α) := fun _ _ e => by cases e; exact ⟨h1, h2⟩
theorem kOk_b {α β : Type} {x : (Nat × Nat) ⊕ α} {k : α → (Nat × Nat) ⊕ β} (h1 : kOk x) (h2 : ∀ a, x = .inr a → kOk (k a)) : kOk (bnd x k) := by
  cases x with
  | inl e => exact fun w p he => h1 w p (by cases he; rfl)
  | inr a => exact h2 a rfl
theorem kOk_nu {f : Nat} {lo hi : Int} : kOk (rNu z n f lo hi) := by
  unfold rNu
  split
  · exact kOk_r
  · rename_i c
    exact kOk_l (by omega) nuW_b
theorem kOk_sn {f : Nat} {hi : Int} : kOk (rSn z n f hi) := by
  unfold rSn
  split
  · exact kOk_r
  · rename_i c
    exact kOk_l (by omega) nuW_b
theorem kOk_opn {s : PF} {f : Nat} : kOk (rOpn z n s f) := by
  unfold rOpn
  split
  · exact kOk_r
  · exact kOk_l (by omega) (by omega)
theorem kOk_nm {s : PF} {f : Nat} {lo hi : Int} : kOk (rNm z n s f lo hi) := kOk_b kOk_nu (fun _ _ => kOk_r)
theorem kOk_chg {s : PF} {f : Nat} {m : Int} : kOk (rChg z n s f m) := kOk_b kOk_nm (fun _ _ => kOk_b kOk_sn (fun _ _ => kOk_r))
theorem kOk_tst {s : PF} {f : Nat} : kOk (rTst z n s f) := by
  unfold rTst rTe2
  split
  · exact kOk_l (by omega) (by omega)
  · split
    · exact kOk_l (by omega) (by omega)
    · split
      · exact kOk_b kOk_nu (fun _ _ => kOk_r)
      · exact kOk_r
theorem kOk_act {s : PF} {f : Nat} : kOk (rAct z n s f) := by
  unfold rAct
  split
  · exact kOk_l (by omega) (by omega)
  · split
    · exact kOk_l (by omega) (by omega)
    · unfold rAc2
      repeat' split
      · exact kOk_nm
      · exact kOk_chg
      · exact kOk_chg
      · exact kOk_r
      · exact kOk_b kOk_nm (fun _ _ => kOk_opn)
      · exact kOk_b kOk_tst (fun _ _ => kOk_opn)
theorem kOk_pie {s : PF} {f : Nat} : kOk (rPie z n s f) := by
  unfold rPie
  split
  · exact kOk_act
  · split
    · unfold rClo
      repeat' split
      · exact kOk_r
      · exact kOk_opn
      · exact kOk_r
    · exact kOk_act
theorem scR_w : ∀ (d : Nat) (s : PF) (f : Nat), kOk (scR z n d s f)
  | 0, s, f => kOk_r
  | d + 1, s, f => by
    unfold scR
    split
    · split
      · exact kOk_r
      · exact kOk_l (by omega) (by omega)
    · exact kOk_b kOk_pie (fun a _ => scR_w d a.1 a.2)
theorem Ce_pR {S : Nat → Nat → Bool} {a b : mH} {o k : Nat} {v : Value} (hC : Ce S a b) : Ce S (pR a o k v) (pR b o k v) := by
  obtain ⟨c1, c2, c3⟩ := hC
  refine ⟨c1, ?_, c3⟩
  unfold pR
  simp only
  rw [c2]
def sgS (r o k : Nat) : Bool := (o == 1) || (rwS r o k || ((o == 82 && (k == 0)) || (o == 0 && (k == 16))))
theorem mX10_score {l rA rB : Nat} {v : Int32} (hi : Iv h) (hz : ZC z h) (hl : gI h 1 1 = iI l) (hl4 : l ≤ 400) (hA : gR h 0 7 = .ref rA) (hB : gR h 0 8 = .ref rB) (hAB : (rA = 43 ∧ rB = 49) ∨ (rA = 49 ∧ rB = 43)) (kI : ¬ (0 ≤ v.toInt ∧ v.toInt ≤ l) → Th eI h Q)
    (ky : ∀ g s, (0 ≤ v.toInt ∧ v.toInt ≤ l) → scR z v.toInt.toNat 401 s0P (rn cB z v.toInt.toNat 0) = .inr s → Ce (sgS rB) (pR (pR h 0 7 (.ref rB)) 0 8 (.ref rA)) g → FS rB s g → gI g 1 1 = 0 → gI g 1 3 = -1 → gI g 82 0 = gI h 82 0 → gI g 0 16 = gI h 0 16 + 1 → Q (.inl (some (.int (iI ((0 : Nat) : Int))))) g)
    (kn : ∀ g w p, (0 ≤ v.toInt ∧ v.toInt ≤ l) → scR z v.toInt.toNat 401 s0P (rn cB z v.toInt.toNat 0) = .inl (w, p) → w ≠ 0 → Ce (sgS rB) h g → gI g 1 1 = 0 → gI g 1 3 = iI (p : Nat) → gI g 82 0 = gI h 82 0 + 1 → gI g 0 16 = gI h 0 16 + 1 → Q (.inl (some (.int (iI (w : Nat))))) g) : WM G jX10_score [.ref 0, .int v] h Q := by
  have hll : (gI h 1 1).toInt = l := by rw [hl, iI_toInt ⟨by omega, by omega⟩]
  refine eX10_score hi (mX10_needBytes hi (fun v1 v2 => ?_) (fun c => kI (fun w => c ⟨w.1, by rw [hll]; exact w.2⟩)))
  rw [hll] at v2
  have ky' := fun g s => ky g s ⟨v1, v2⟩
  have kn' := fun g w p => kn g w p ⟨v1, v2⟩
  clear ky kn kI
  have ev := i32_nat v1
  have hn : v.toInt.toNat ≤ l := by omega
  generalize v.toInt.toNat = n at *
  subst ev
  have fb := rn_b (p := cB) (z := z) (n := n) n 0 (by omega)
  have kA : kd rA = (7, 7) := by rcases hAB with ⟨rfl, rfl⟩ | ⟨rfl, rfl⟩ <;> rfl
  have kB : kd rB = (7, 7) := by rcases hAB with ⟨rfl, rfl⟩ | ⟨rfl, rfl⟩ <;> rfl
  have rB2 : 2 < rB := by omega
  refine bX10_score_5 hi (mX9_begin hi hz hl hl4 hn (fun g1 C1 t1 q2 q3 => ?_))
  have i1 := C1.iv hi
  have z1 : ZC z g1 := ZC_c C1 (fun k => rfl) hz
  have bg1 : Ce (sgS rB) h g1 := C1.wk (fun o k ho => by
    unfold bgS
    unfold sgS at ho
    simp at ho
    simp [ho.1])
  have gR1 : ∀ (g : mH) k, g.2.2 = h.2.2 → gR g 0 k = gR h 0 k := fun g k e => by
    show g.2.2.2 0 k = h.2.2.2 0 k
    rw [e]
  have scsg : ∀ {a b : mH}, Ce (scS rB) a b → Ce (sgS rB) a b := fun hC => hC.wk (fun o k ho => by
    unfold sgS at ho
    unfold scS tsS
    simp at ho ⊢
    exact ⟨fun e => absurd e ho.1, ho.2.1⟩)
  have sdsg : ∀ {a b : mH}, Ce (sdS rB) a b → Ce (sgS rB) a b := fun hC => hC.wk (fun o k ho => by
    unfold sgS at ho
    unfold sdS tkS
    simp at ho ⊢
    exact ⟨fun e => absurd e ho.1, ho.2.1⟩)
  have etsg : ∀ {a b : mH}, Ce etS a b → Ce (sgS rB) a b := fun hC => hC.wk (fun o k ho => by
    unfold sgS at ho
    unfold etS
    simp at ho ⊢
    exact ⟨fun e => absurd e ho.1, ho.2.2.2, ho.2.2.1⟩)
  have rwn : ∀ o k, o ≤ 2 ∨ 60 < o → rwS rB o k = false := fun o k ho => by unfold rwS; exact decide_eq_false (by omega)
  refine bX10_score_13 i1 (rA8 := rB) (by rw [gR1 g1 8 C1.2.1]; exact hB) kB (mX7_read i1 rB2 kB z1 (by omega) fb.2.1 t1 ⟨fun g2 s hs C2 F2 => ?_, fun g2 w p hs C2 g22 g23 => ?_⟩)
  · have i2 := C2.iv i1
    have e2 : g2.2.2 = h.2.2 := C2.2.1.trans C1.2.1
    have c12 : gI g2 1 2 = 0 := by rw [C2.2.2 1 2 (by unfold scS; rw [rwn 1 2 (by omega)]; rfl)]; exact q2
    have c13 : gI g2 1 3 = -1 := by rw [C2.2.2 1 3 (by unfold scS; rw [rwn 1 3 (by omega)]; rfl)]; exact q3
    have c82 : gI g2 82 0 = gI h 82 0 := by rw [C2.2.2 82 0 (by unfold scS; rw [rwn 82 0 (by omega)]; rfl), C1.2.2 82 0 rfl]
    have c016 : gI g2 0 16 = gI h 0 16 := by rw [C2.2.2 0 16 (by unfold scS; rw [rwn 0 16 (by omega)]; rfl), C1.2.2 0 16 rfl]
    refine bX10_score_24 i2 (rA7 := rA) (rA8 := rB) (by rw [gR1 g2 7 e2]; exact hA) kA (by rw [gR1 g2 8 e2]; exact hB) kB ⟨fun c => absurd c (by decide), fun _ => ?_⟩
    have D3 : Ce (sgS rB) (pR (pR h 0 7 (.ref rB)) 0 8 (.ref rA)) (pR (pR g2 0 7 (.ref rB)) 0 8 (.ref rA)) := Ce_pR (Ce_pR (bg1.tr (scsg C2)))
    have i3 : Iv (pR (pR g2 0 7 (.ref rB)) 0 8 (.ref rA)) := Iv.dy8 (Iv.dy7 i2)
    have F3 : FS rB s (pR (pR g2 0 7 (.ref rB)) 0 8 (.ref rA)) := by
      obtain ⟨a, b, c, d⟩ := F2
      exact ⟨a, b, c, opn_cg (g := g2) _ (fun _ _ => rfl) d⟩
    have d12 : gI (pR (pR g2 0 7 (.ref rB)) 0 8 (.ref rA)) 1 2 = iI ((0 : Nat) : Int) := c12.trans n_0
    refine bX10_score_45 i3 (mX10_endOfText i3 d12 (by omega) (fun g5 C5 e1 e16 e82 => bX10_score_49 (C5.iv i3) ?_))
    rw [if_pos rfl] at e82
    refine ky' g5 s hs (D3.tr (etsg C5)) (FS_c C5 (fun o k h1 h2 => ?_) F3) e1 ?_ ?_ ?_
    · unfold etS
      simp
      omega
    · rw [C5.2.2 1 3 rfl]; exact c13
    · rw [e82]; exact c82
    · rw [e16]; exact congrArg (· + 1) c016
  · have i2 := C2.iv i1
    have e2 : g2.2.2 = h.2.2 := C2.2.1.trans C1.2.1
    obtain ⟨w1, w2⟩ := scR_w _ _ _ w p hs
    have c82 : gI g2 82 0 = gI h 82 0 := by rw [C2.2.2 82 0 (by unfold sdS; rw [rwn 82 0 (by omega)]; rfl), C1.2.2 82 0 rfl]
    have c016 : gI g2 0 16 = gI h 0 16 := by rw [C2.2.2 0 16 (by unfold sdS; rw [rwn 0 16 (by omega)]; rfl), C1.2.2 0 16 rfl]
    refine bX10_score_24 i2 (rA7 := rA) (rA8 := rB) (by rw [gR1 g2 7 e2]; exact hA) kA (by rw [gR1 g2 8 e2]; exact hB) kB ⟨fun _ => ?_, fun c => absurd rfl c⟩
    refine bX10_score_45 i2 (mX10_endOfText i2 g22 (by omega) (fun g5 C5 e1 e16 e82 => bX10_score_49 (C5.iv i2) ?_))
    rw [if_neg (by omega)] at e82
    refine kn' g5 w p hs (by omega) ((bg1.tr (sdsg C2)).tr (etsg C5)) e1 ?_ ?_ ?_
    · rw [C5.2.2 1 3 rfl]; exact g23
    · rw [e82, c82]
    · rw [e16, c016]
end SCC5
