section NUMS
/-- an int by its number -/
def iI (x : Int) : Int32 := Int32.ofInt x
def r31 (x : Int) : Prop := -2147483648 ≤ x ∧ x ≤ 2147483647
theorem r31_of {x : Int} (a : -2147483648 ≤ x) (b : x ≤ 2147483647) : r31 x := ⟨a, b⟩
theorem iI_lit (n : Nat) : (OfNat.ofNat n : Int32) = iI (OfNat.ofNat n : Nat) := Int32.ofInt_eq_ofNat.symm
theorem iI_self (x : Int32) : iI x.toInt = x := Int32.ofInt_toInt x
theorem r31_self (x : Int32) : r31 x.toInt := by
  have h1 := x.le_toInt
  have h2 := x.toInt_lt
  exact ⟨by simpa using h1, by have : x.toInt < 2147483648 := by simpa using h2
                               omega⟩
theorem iI_toInt {x : Int} (h : r31 x) : (iI x).toInt = x := Int32.toInt_ofInt_of_le (by have := h.1; omega) (by have := h.2; omega)
theorem iI_add (a b : Int) : iI a + iI b = iI (a + b) := (Int32.ofInt_add a b).symm
theorem iI_sub (a b : Int) : iI a - iI b = iI (a - b) := (Int32.ofInt_sub a b).symm
theorem iI_mul (a b : Int) : iI a * iI b = iI (a * b) := (Int32.ofInt_mul a b).symm
theorem iI_neg (a : Int) : -iI a = iI (-a) := (Int32.ofInt_neg a).symm
theorem mn32 : Int32.minValue.toInt = -2147483648 := by decide
theorem mx32 : Int32.maxValue.toInt = 2147483647 := by decide
theorem iI_le {a b : Int} (ha : r31 a) (hb : r31 b) : iI a ≤ iI b ↔ a ≤ b := Int32.ofInt_le_iff_le (by rw [mn32]; exact ha.1) (by rw [mx32]; exact ha.2) (by rw [mn32]; exact hb.1) (by rw [mx32]; exact hb.2)
theorem iI_lt {a b : Int} (ha : r31 a) (hb : r31 b) : iI a < iI b ↔ a < b := Int32.ofInt_lt_iff_lt (by rw [mn32]; exact ha.1) (by rw [mx32]; exact ha.2) (by rw [mn32]; exact hb.1) (by rw [mx32]; exact hb.2)
theorem iI_eq {a b : Int} (ha : r31 a) (hb : r31 b) : iI a = iI b ↔ a = b := ⟨fun h => by rw [← iI_toInt ha, ← iI_toInt hb, h], fun h => by rw [h]⟩
theorem iI_div {a b : Int} (ha : r31 a) (hb : r31 b) : iI a / iI b = iI (a.tdiv b) := (Int32.ofInt_tdiv (by rw [mn32]; exact ha.1) (by rw [mx32]; exact ha.2) (by rw [mn32]; exact hb.1) (by rw [mx32]; exact hb.2)).symm
theorem iI_rem {a b : Int} (ha : r31 a) (hb : r31 b) : iI a - iI a / iI b * iI b = iI (a.tmod b) := by
  rw [iI_div ha hb, iI_mul, iI_sub]
  congr 1
  have := Int.mul_tdiv_add_tmod a b
  rw [Int.mul_comm] at this
  omega
theorem iI_ix {x : Int} (h : r31 x) : (iI x).toNatClampNeg = x.toNat := by
  show (iI x).toInt.toNat = x.toNat
  rw [iI_toInt h]
theorem iI_in {x : Int} {n : Nat} (h0 : 0 ≤ x) (h1 : x < n) (hn : n ≤ 2147483647) : vp_in (iI x) n := by
  have hr : r31 x := ⟨by omega, by omega⟩
  rw [vp_in_iff, iI_toInt hr]
  exact ⟨h0, h1⟩
theorem iI_ge0 {x : Int} (h : r31 x) : ¬ iI x < 0 ↔ 0 ≤ x := by
  rw [show (0 : Int32) = iI 0 from by decide, iI_lt h ⟨by decide, by decide⟩]
  omega
/-- all but some rows of ints are as they were -/
def Sm (S : Nat → Bool) (h h' : mH) : Prop := h'.1 = h.1 ∧ h'.2.2 = h.2.2 ∧ ∀ o, S o = false → h'.2.1 o = h.2.1 o
theorem Sm.rf {S : Nat → Bool} {h : mH} : Sm S h h := ⟨rfl, rfl, fun _ _ => rfl⟩
theorem Sm.tr {S : Nat → Bool} {a b c : mH} (h1 : Sm S a b) (h2 : Sm S b c) : Sm S a c := ⟨h2.1.trans h1.1, h2.2.1.trans h1.2.1, fun o ho => (h2.2.2 o ho).trans (h1.2.2 o ho)⟩
theorem Sm.gI {S : Nat → Bool} {h h' : mH} (hs : Sm S h h') {o : Nat} (ho : S o = false) (k : Nat) : gI h' o k = gI h o k := by unfold _root_.Jvm.Pilot.CPenSwingsLaw_law_r2440_7aaa7a.gI; rw [hs.2.2 o ho]
theorem Sm.iv {S : Nat → Bool} {h h' : mH} (hs : Sm S h h') (hi : Iv h) : Iv h' := by
  obtain ⟨e1, e2, -⟩ := hs
  unfold Iv at hi ⊢
  rw [e1, e2]
  exact hi
theorem Sm.gR {S : Nat → Bool} {h h' : mH} (hs : Sm S h h') (o k : Nat) : h'.2.2.2 o k = h.2.2.2 o k := by rw [hs.2.1]
theorem Sm.pI {S : Nat → Bool} {h h' : mH} (hs : Sm S h h') {o : Nat} (ho : S o = true) (k : Nat) (v : Int32) : Sm S h (pI h' o k v) := by
  refine ⟨hs.1, hs.2.1, fun q hq => ?_⟩
  have : q ≠ o := fun e => by rw [e, ho] at hq; cases hq
  rw [← hs.2.2 q hq]
  exact (pA_other h' o _ q this).1
theorem Sm.pA {S : Nat → Bool} {h h' : mH} (hs : Sm S h h') {o : Nat} (ho : S o = true) (f : Nat → Int32) : Sm S h (pA h' o f) := by
  refine ⟨hs.1, hs.2.1, fun q hq => ?_⟩
  have : q ≠ o := fun e => by rw [e, ho] at hq; cases hq
  rw [← hs.2.2 q hq]
  exact (pA_other h' o _ q this).1
theorem Sm.wk {S T : Nat → Bool} {h h' : mH} (hs : Sm S h h') (hT : ∀ o, T o = false → S o = false) : Sm T h h' := ⟨hs.1, hs.2.1, fun o ho => hs.2.2 o (hT o ho)⟩
end NUMS
