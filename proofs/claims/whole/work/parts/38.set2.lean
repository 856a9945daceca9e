section SET2
variable {G : GX} {h : mH} {Q : mO → mH → Prop}
def mst (w : Int32) : Int := if w = 0 then 9 else if w = 1 then 99 else 90
theorem mst_b (w : Int32) : r31 (mst w) := by unfold mst r31; repeat' split; all_goals omega
theorem most_iI (w : Int32) : fX10_mostOfSetting w = iI (mst w) := by
  unfold fX10_mostOfSetting mst
  repeat' split
  all_goals decide
theorem px_iI {p w : Nat} (hp : p < 4) (hw : w < 3) : (4 : Int32) * iI (w : Int) + iI (p : Int) = iI ((4 * w + p : Nat) : Int) ∧ (iI ((4 * w + p : Nat) : Int)).toNatClampNeg = 4 * w + p ∧ vp_in (iI ((4 * w + p : Nat) : Int)) 12 :=
  ⟨by rw [iI_lit 4, iI_mul, iI_add]; congr 1, by rw [iI_ix ⟨by omega, by omega⟩]; rfl, iI_in (by omega) (by omega) (by omega)⟩
def i02 (v : Int32) : Prop := 0 ≤ v.toInt ∧ v.toInt ≤ 2
theorem mX10_set {p w v : Int32} (hi : Iv h) (kN : ¬ (i03 p ∧ i02 w) → Th eN h Q) (kR : (i03 p ∧ i02 w) → ¬ (0 ≤ v.toInt ∧ v.toInt ≤ mst w) → Q (.inl (some (.int (-1)))) (pI h 82 1 (gI h 82 1 + 1)))
    (k : (i03 p ∧ i02 w) → (0 ≤ v.toInt ∧ v.toInt ≤ mst w) → Q (.inl (some (.int (gI h 7 (4 * w.toInt.toNat + p.toInt.toNat))))) (pI (pI h 7 (4 * w.toInt.toNat + p.toInt.toNat) v) 0 16 (gI h 0 16 + 1))) : WM G jX10_set [.ref 0, .int p, .int w, .int v] h Q := by
  refine eX10_set hi (mX10_needPendulum hi (fun p1 p2 => ?_) (fun c => kN (fun z => c z.1)))
  refine bX10_set_4 hi ?_
  rw [show (2 : Int32) = iI 2 from by decide]
  refine mX10_needWhat ⟨by decide, by decide⟩ hi (fun w1 w2 => ?_) (fun c => kN (fun z => c z.2))
  have hok : i03 p ∧ i02 w := ⟨⟨p1, p2⟩, w1, w2⟩
  have b1 : p.toInt.toNat < 4 := by omega
  have b2 : w.toInt.toNat < 3 := by omega
  obtain ⟨x1, x2, x3⟩ := px_iI b1 b2
  have e0 : v < 0 ↔ v.toInt < 0 := by rw [i32_0, i32_lt ⟨by decide, by decide⟩]
  have e1 : v ≤ fX10_mostOfSetting w ↔ v.toInt ≤ mst w := by rw [most_iI, i32_le (mst_b w)]
  have no : ¬ (0 ≤ v.toInt ∧ v.toInt ≤ mst w) → Vw G jX10_set 21 [some (.ref 0), none, none, none, none, none] [] h Q := fun z => by
    refine bX10_set_21 hi ?_
    rw [show (1 : Int32) = iI ((1 : Nat) : Int) from by decide]
    exact mX10_refuse hi (by omega) (bX10_set_26 (h := pI h 82 1 (gI h 82 1 + 1)) hi (kR hok z))
  have hpw : (4 : Int32) * w + p = iI ((4 * w.toInt.toNat + p.toInt.toNat : Nat) : Int) := by
    rw [← x1, ← i32_nat p1, ← i32_nat w1]
  refine bX10_set_9 hi ⟨fun c => no ?_, fun c => ⟨fun c1 => ?_, fun c1 => no ?_⟩⟩
  · rw [e0] at c; omega
  · rw [e0] at c
    rw [e1] at c1
    have k' := k hok ⟨by omega, c1⟩
    rw [hpw, x2]
    refine ⟨x3, x3, ?_⟩
    rw [gI_pI h 7, if_neg (by omega)]
    exact k'
  · rw [e1] at c1; omega
end SET2
