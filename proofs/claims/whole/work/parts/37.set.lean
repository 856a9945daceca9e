section SETS
variable {G : GX} {h : mH} {Q : mO → mH → Prop}
theorem pl_iI {p : Nat} (hp : p < 4) : (iI (p : Int)).toNatClampNeg = p ∧ vp_in (iI (p : Int)) 4 ∧ vp_in (iI (p : Int)) 12 ∧ (8 : Int32) + iI (p : Int) = iI ((8 + p : Nat) : Int) ∧ (iI ((8 + p : Nat) : Int)).toNatClampNeg = 8 + p ∧ vp_in (iI ((8 + p : Nat) : Int)) 12 ∧ (4 : Int32) + iI (p : Int) = iI ((4 + p : Nat) : Int) ∧ (iI ((4 + p : Nat) : Int)).toNatClampNeg = 4 + p ∧ vp_in (iI ((4 + p : Nat) : Int)) 12 :=
  ⟨by rw [iI_ix ⟨by omega, by omega⟩]; rfl, iI_in (by omega) (by omega) (by omega), iI_in (by omega) (by omega) (by omega), by rw [iI_lit 8, iI_add]; congr 1, by rw [iI_ix ⟨by omega, by omega⟩]; rfl, iI_in (by omega) (by omega) (by omega), by rw [iI_lit 4, iI_add]; congr 1, by rw [iI_ix ⟨by omega, by omega⟩]; rfl, iI_in (by omega) (by omega) (by omega)⟩
/-- pendulum(p, what) over rows -/
def peV (h : mH) (a1 a2 a3 a4 p : Nat) (w : Int32) : Int32 := if w = 0 then gI h a1 p else if w = 1 then gI h a2 p else if w = 2 then gI h a4 (8 + p) else if w = 3 then gI h a4 (4 + p) else if w = 4 then gI h a3 p else if w = 5 then gI h a4 p else gI h a2 p + gI h a4 p
theorem peV_c {a1 a2 a3 a4 p : Nat} {w : Int32} : (w = 0 → peV h a1 a2 a3 a4 p w = gI h a1 p) ∧ (w = 1 → peV h a1 a2 a3 a4 p w = gI h a2 p) ∧ (w = 2 → peV h a1 a2 a3 a4 p w = gI h a4 (8 + p)) ∧ (w = 3 → peV h a1 a2 a3 a4 p w = gI h a4 (4 + p)) ∧ (w = 4 → peV h a1 a2 a3 a4 p w = gI h a3 p) ∧ (w = 5 → peV h a1 a2 a3 a4 p w = gI h a4 p) ∧ (¬ w = 0 → ¬ w = 1 → ¬ w = 2 → ¬ w = 3 → ¬ w = 4 → ¬ w = 5 → peV h a1 a2 a3 a4 p w = gI h a2 p + gI h a4 p) := by
  unfold peV
  refine ⟨fun c => ?_, fun c => ?_, fun c => ?_, fun c => ?_, fun c => ?_, fun c => ?_, fun c0 c1 c2 c3 c4 c5 => ?_⟩
  · rw [if_pos c]
  · subst c; rfl
  · subst c; rfl
  · subst c; rfl
  · subst c; rfl
  · subst c; rfl
  · rw [if_neg c0, if_neg c1, if_neg c2, if_neg c3, if_neg c4, if_neg c5]
def i03 (v : Int32) : Prop := 0 ≤ v.toInt ∧ v.toInt ≤ 3
theorem mX10_pendulum {p w : Int32} (hi : Iv h) (kN : ¬ (i03 p ∧ (0 ≤ w.toInt ∧ w.toInt ≤ 6)) → Th eN h Q) (k : (i03 p ∧ (0 ≤ w.toInt ∧ w.toInt ≤ 6)) → Q (.inl (some (.int (peV h 4 5 6 7 p.toInt.toNat w)))) h) : WM G jX10_pendulum [.ref 0, .int p, .int w] h Q := by
  refine eX10_pendulum hi (mX10_needPendulum hi (fun p1 p2 => ?_) (fun c => kN (fun z => c z.1)))
  refine bX10_pendulum_4 hi ?_
  rw [show (6 : Int32) = iI 6 from by decide]
  refine mX10_needWhat ⟨by decide, by decide⟩ hi (fun w1 w2 => ?_) (fun c => kN (fun z => c z.2))
  have k' := k ⟨⟨p1, p2⟩, w1, w2⟩
  have b1 : p.toInt.toNat < 4 := by omega
  obtain ⟨x1, x2, x3, x4, x5, x6, x7, x8, x9⟩ := pl_iI b1
  obtain ⟨c0, c1, c2, c3, c4, c5, c6⟩ := peV_c (h := h) (a1 := 4) (a2 := 5) (a3 := 6) (a4 := 7) (p := p.toInt.toNat) (w := w)
  refine bX10_pendulum_10 hi ?_
  rw [i32_nat p1, x4, x7, x1, x5, x8]
  refine ⟨fun z => ⟨x2, by rw [← c0 z]; exact k'⟩, fun z => ⟨x2, by rw [← c1 z]; exact k'⟩, fun z => ⟨x6, by rw [← c2 z]; exact k'⟩, fun z => ⟨x9, by rw [← c3 z]; exact k'⟩, fun z => ⟨x2, by rw [← c4 z]; exact k'⟩, fun z => ⟨x3, by rw [← c5 z]; exact k'⟩, fun z0 z1 z2 z3 z4 z5 => mX2_period (r := 3) hi rfl b1 (bX10_pendulum_121 hi ?_)⟩
  rw [c6 z0 z1 z2 z3 z4 z5] at k'
  exact k'
theorem mX11_pendulum {p w : Int32} (hi : Iv h) (kN : ¬ (i03 p ∧ (0 ≤ w.toInt ∧ w.toInt ≤ 6)) → Q (.inl (some (.int 0))) (pI (pI h 83 0 0) 83 0 1)) (k : (i03 p ∧ (0 ≤ w.toInt ∧ w.toInt ≤ 6)) → Q (.inl (some (.int (peV h 84 85 86 87 p.toInt.toNat w)))) (pI h 83 0 0)) : WM G jX11_pendulum [.ref 83, .int p, .int w] h Q := by
  have hi0 : Iv (pI h 83 0 0) := hi
  have h00 : gI (pI h 83 0 0) 83 0 = 0 := by rw [gI_pI]; rfl
  refine eX11_pendulum hi (mX11_isPendulum hi0 h00 (fun hp => ?_) (fun hp => bX11_pendulum_10 (h := pI (pI h 83 0 0) 83 0 1) hi ⟨fun _ => kN (fun z => hp z.1), fun z => absurd rfl z⟩))
  refine bX11_pendulum_10 hi0 ⟨fun z => absurd z (by decide), fun _ => ?_⟩
  rw [show fX11_within w 0 6 = bI (0 ≤ w.toInt ∧ w.toInt ≤ 6) from within_b (a := 0) (b := 6) ⟨by decide, by decide⟩ ⟨by decide, by decide⟩]
  refine mX11_right hi0 h00 (by decide) (fun hw => ?_) (fun hw => bX11_pendulum_25 (h := pI (pI h 83 0 0) 83 0 1) hi ⟨fun z => absurd rfl z, fun _ => kN (fun z => hw z.2)⟩)
  have k' := k ⟨hp, hw⟩
  have b1 : p.toInt.toNat < 4 := by have := hp.2; omega
  obtain ⟨x1, x2, x3, x4, x5, x6, x7, x8, x9⟩ := pl_iI b1
  obtain ⟨c0, c1, c2, c3, c4, c5, c6⟩ := peV_c (h := h) (a1 := 84) (a2 := 85) (a3 := 86) (a4 := 87) (p := p.toInt.toNat) (w := w)
  refine bX11_pendulum_25 hi0 ⟨fun _ => ?_, fun z => absurd z (by decide)⟩
  rw [i32_nat hp.1, x4, x7, x1, x5, x8]
  have r : ∀ o j, o ≠ 83 → gI (pI h 83 0 0) o j = gI h o j := fun o j ho => by rw [gI_pI, if_neg (by omega)]
  rw [r 84 _ (by omega), r 85 _ (by omega), r 86 _ (by omega), r 87 _ (by omega), r 87 _ (by omega), r 87 _ (by omega)]
  refine ⟨fun z => ⟨x2, by rw [← c0 z]; exact k'⟩, fun z => ⟨x2, by rw [← c1 z]; exact k'⟩, fun z => ⟨x6, by rw [← c2 z]; exact k'⟩, fun z => ⟨x9, by rw [← c3 z]; exact k'⟩, fun z => ⟨x2, by rw [← c4 z]; exact k'⟩, fun z => ⟨x3, by rw [← c5 z]; exact k'⟩, fun z0 z1 z2 z3 z4 z5 => mX11_period (f := 0) hi0 (a := 87) (n := 12) rfl (by omega) (by omega) b1 (bX11_pendulum_125 hi0 ?_)⟩
  rw [c6 z0 z1 z2 z3 z4 z5] at k'
  rw [r 85 _ (by omega), r 87 _ (by omega), Nat.zero_add]
  exact k'
end SETS
