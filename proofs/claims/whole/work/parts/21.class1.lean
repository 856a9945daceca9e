section CLASS1
abbrev eN : String := "java/util/NoSuchElementException"
abbrev eI : String := "java/lang/IllegalArgumentException"
/-- a throw of E: there is room for it, and both ends are as they must be -/
def Th (E : String) (h : mH) (Q : mO → mH → Prop) : Prop := (h.1.length + 1 ≤ NC ∧ sl h + 6 ≤ NS) ∧ Q (.inr E) h ∧ ∀ n, n ≤ 6 → Q (.inr E) (aN h 200 n)
theorem i32_le {v : Int32} {c : Int} (hc : r31 c) : v ≤ iI c ↔ v.toInt ≤ c := by rw [← iI_le (r31_self v) hc, iI_self]
theorem i32_lt {v : Int32} {c : Int} (hc : r31 c) : v < iI c ↔ v.toInt < c := by rw [← iI_lt (r31_self v) hc, iI_self]
theorem i32_ge {v : Int32} {c : Int} (hc : r31 c) : iI c ≤ v ↔ c ≤ v.toInt := by rw [← iI_le hc (r31_self v), iI_self]
theorem i32_gt {v : Int32} {c : Int} (hc : r31 c) : iI c < v ↔ c < v.toInt := by rw [← iI_lt hc (r31_self v), iI_self]
theorem i32_eq {v : Int32} {c : Int} (hc : r31 c) : v = iI c ↔ v.toInt = c := by rw [← iI_eq (r31_self v) hc, iI_self]
theorem i32_nat {v : Int32} (h : 0 ≤ v.toInt) : v = iI ((v.toInt.toNat : Nat) : Int) := by rw [Int.toNat_of_nonneg h, iI_self]
theorem i32_0 : (0 : Int32) = iI 0 := by decide
theorem rl {n : Nat} (h : n ≤ 2147483647) : r31 (n : Int) := ⟨by omega, by omega⟩
variable {G : GX} {h : mH} {Q : mO → mH → Prop}
theorem mX10_needPendulum {v : Int32} (hi : Iv h) (k : 0 ≤ v.toInt → v.toInt ≤ 3 → Q (.inl none) h) (kx : ¬ (0 ≤ v.toInt ∧ v.toInt ≤ 3) → Th eN h Q) : WM G jX10_needPendulum [.int v] h Q := by
  have e4 : (4 : Int32) = iI 4 := by decide
  refine eX10_needPendulum hi ⟨fun c => bX10_needPendulum_9 hi (kx ?_), fun c => ⟨fun c1 => k ?_ ?_, fun c1 => bX10_needPendulum_9 hi (kx ?_)⟩⟩
  · rw [i32_0, i32_lt ⟨by decide, by decide⟩] at c; omega
  · rw [i32_0, i32_lt ⟨by decide, by decide⟩] at c; omega
  · rw [e4, i32_lt ⟨by decide, by decide⟩] at c1; omega
  · rw [e4, i32_lt ⟨by decide, by decide⟩] at c1; omega
theorem mX10_needWhat {v : Int32} {m : Int} (hm : r31 m) (hi : Iv h) (k : 0 ≤ v.toInt → v.toInt ≤ m → Q (.inl none) h) (kx : ¬ (0 ≤ v.toInt ∧ v.toInt ≤ m) → Th eN h Q) : WM G jX10_needWhat [.int v, .int (iI m)] h Q := by
  refine eX10_needWhat hi ⟨fun c => bX10_needWhat_9 hi (kx ?_), fun c => ⟨fun c1 => k ?_ ?_, fun c1 => bX10_needWhat_9 hi (kx ?_)⟩⟩
  · rw [i32_0, i32_lt ⟨by decide, by decide⟩] at c; omega
  · rw [i32_0, i32_lt ⟨by decide, by decide⟩] at c; omega
  · rw [i32_le hm] at c1; omega
  · rw [i32_le hm] at c1; omega
theorem isTick_iff {v : Int32} : fX10_isTick v = 0 ↔ ¬ (0 ≤ v.toInt ∧ v.toInt ≤ 9999) := by
  unfold fX10_isTick
  rw [show (9999 : Int32) = iI 9999 from by decide, i32_0]
  simp only [i32_lt (c := 0) ⟨by decide, by decide⟩, i32_gt (c := 9999) ⟨by decide, by decide⟩]
  repeat' split
  all_goals first | (constructor <;> intro z <;> first | omega | exact absurd z (by decide) | rfl) | skip
theorem mX10_needTick {v : Int32} (hi : Iv h) (k : 0 ≤ v.toInt → v.toInt ≤ 9999 → Q (.inl none) h) (kx : ¬ (0 ≤ v.toInt ∧ v.toInt ≤ 9999) → Th eI h Q) : WM G jX10_needTick [.int v] h Q := by
  refine eX10_needTick hi ⟨fun c => ?_, fun c => kx (isTick_iff.mp c)⟩
  rw [isTick_iff] at c
  exact k (by omega) (by omega)
theorem isCell_iff {v : Int32} : fX10_isCell v = 0 ↔ ¬ (0 ≤ v.toInt ∧ v.toInt ≤ 728) := by
  unfold fX10_isCell
  rw [show (729 : Int32) = iI 729 from by decide, i32_0]
  simp only [i32_lt (c := 0) ⟨by decide, by decide⟩, i32_ge (c := 729) ⟨by decide, by decide⟩]
  repeat' split
  all_goals first | (constructor <;> intro z <;> first | omega | exact absurd z (by decide) | rfl) | skip
theorem mX10_needCell {v : Int32} (hi : Iv h) (k : 0 ≤ v.toInt → v.toInt ≤ 728 → Q (.inl none) h) (kx : ¬ (0 ≤ v.toInt ∧ v.toInt ≤ 728) → Th eN h Q) : WM G jX10_needCell [.int v] h Q := by
  refine eX10_needCell hi ⟨fun c => ?_, fun c => kx (isCell_iff.mp c)⟩
  rw [isCell_iff] at c
  exact k (by omega) (by omega)
theorem mX10_needWithin {v : Int32} {a b : Int} (ha : r31 a) (hb : r31 b) (hi : Iv h) (k : a ≤ v.toInt → v.toInt ≤ b → Q (.inl none) h) (kx : ¬ (a ≤ v.toInt ∧ v.toInt ≤ b) → Th eI h Q) : WM G jX10_needWithin [.int v, .int (iI a), .int (iI b)] h Q := by
  refine eX10_needWithin hi ⟨fun c => bX10_needWithin_10 hi (kx ?_), fun c => ⟨fun c1 => k ?_ ?_, fun c1 => bX10_needWithin_10 hi (kx ?_)⟩⟩
  · rw [i32_lt ha] at c; omega
  · rw [i32_lt ha] at c; omega
  · rw [i32_le hb] at c1; omega
  · rw [i32_le hb] at c1; omega
def spn (a b : Int32) : Prop := 0 ≤ a.toInt ∧ b.toInt ≤ 9999 ∧ a.toInt ≤ b.toInt ∧ b.toInt - a.toInt ≤ 999
theorem mX10_needSpan {a b : Int32} (hi : Iv h) (k : spn a b → Q (.inl none) h) (kx : ¬ spn a b → Th eI h Q) : WM G jX10_needSpan [.int a, .int b] h Q := by
  have ra := r31_self a
  have rb := r31_self b
  refine eX10_needSpan hi (mX10_needTick hi (fun a1 a2 => ?_) (fun c => kx (fun z => c ⟨z.1, by have := z.2.1; have := z.2.2.1; omega⟩)))
  refine bX10_needSpan_4 hi (mX10_needTick hi (fun b1 b2 => ?_) (fun c => kx (fun z => c ⟨by have := z.1; have := z.2.2.1; omega, z.2.1⟩)))
  have hlt : b < a ↔ b.toInt < a.toInt := by rw [← iI_lt rb ra, iI_self, iI_self]
  have hle : b - a ≤ 999 ↔ b.toInt - a.toInt ≤ 999 := by
    rw [← iI_self b, ← iI_self a, iI_sub, iI_toInt rb, iI_toInt ra, show (999 : Int32) = iI 999 from by decide, iI_le ⟨by omega, by omega⟩ ⟨by decide, by decide⟩]
  refine bX10_needSpan_8 hi ⟨fun c => bX10_needSpan_22 hi (kx (fun z => ?_)), fun c => ⟨fun c1 => k ⟨a1, b2, ?_, ?_⟩, fun c1 => bX10_needSpan_22 hi (kx (fun z => ?_))⟩⟩
  · have := z.2.2.1
    rw [hlt] at c; omega
  · rw [hlt] at c; omega
  · rw [hle] at c1; omega
  · have := z.2.2.2
    rw [hle] at c1; omega
theorem mX10_needPortrait {v : Int32} (hi : Iv h) (k : 0 ≤ v.toInt → v.toInt < (gI h 33 1).toInt → Q (.inl none) h) (kx : ¬ (0 ≤ v.toInt ∧ v.toInt < (gI h 33 1).toInt) → Th eN h Q) : WM G jX10_needPortrait [.ref 0, .int v] h Q := by
  have hlt : v < gI h 33 1 ↔ v.toInt < (gI h 33 1).toInt := by rw [← iI_lt (r31_self _) (r31_self _), iI_self, iI_self]
  refine eX10_needPortrait hi ⟨fun c => bX10_needPortrait_15 hi (kx ?_), fun c => ⟨fun c1 => k ?_ (hlt.mp c1), fun c1 => bX10_needPortrait_15 hi (kx (fun z => c1 (hlt.mpr z.2)))⟩⟩
  · rw [i32_0, i32_lt ⟨by decide, by decide⟩] at c; omega
  · rw [i32_0, i32_lt ⟨by decide, by decide⟩] at c; omega
theorem mX10_needBytes {v : Int32} (hi : Iv h) (k : 0 ≤ v.toInt → v.toInt ≤ (gI h 1 1).toInt → Q (.inl none) h) (kx : ¬ (0 ≤ v.toInt ∧ v.toInt ≤ (gI h 1 1).toInt) → Th eI h Q) : WM G jX10_needBytes [.ref 0, .int v] h Q := by
  have hle : v ≤ gI h 1 1 ↔ v.toInt ≤ (gI h 1 1).toInt := by rw [← iI_le (r31_self _) (r31_self _), iI_self, iI_self]
  refine eX10_needBytes hi ⟨fun c => bX10_needBytes_15 hi (kx ?_), fun c => ⟨fun c1 => k ?_ (hle.mp c1), fun c1 => bX10_needBytes_15 hi (kx (fun z => c1 (hle.mpr z.2)))⟩⟩
  · rw [i32_0, i32_lt ⟨by decide, by decide⟩] at c; omega
  · rw [i32_0, i32_lt ⟨by decide, by decide⟩] at c; omega
theorem mX10_refuse {s : Nat} (hi : Iv h) (hs : s < 5) (k : Q (.inl (some (.int (-1)))) (pI h 82 s (gI h 82 s + 1))) : WM G jX10_refuse [.ref 0, .int (iI s)] h Q := by
  have hx : (iI (s : Int)).toNatClampNeg = s := by rw [iI_ix ⟨by omega, by omega⟩]; rfl
  have hv : vp_in (iI (s : Int)) 5 := iI_in (by omega) (by omega) (by omega)
  refine eX10_refuse hi ⟨hv, hv, ?_⟩
  rw [hx]; exact k
/-- swing(pendulum, tick) -/
theorem mX10_swing {p t : Int32} (hi : Iv h) (hf : FR h 3) (hfd : FdOk h 3) (kN : ¬ (0 ≤ p.toInt ∧ p.toInt ≤ 3) → Th eN h Q) (kI : (0 ≤ p.toInt ∧ p.toInt ≤ 3) → ¬ (0 ≤ t.toInt ∧ t.toInt ≤ 9999) → Th eI h Q)
    (k : ∀ h', (0 ≤ p.toInt ∧ p.toInt ≤ 3) → (0 ≤ t.toInt ∧ t.toInt ≤ 9999) → Sm (cr 3) h h' → FdOk h' 3 → Q (.inl (some (.int (iI (atV h 4 5 6 7 0 p.toInt.toNat t.toInt.toNat))))) h') : WM G jX10_swing [.ref 0, .int p, .int t] h Q := by
  refine eX10_swing hi (mX10_needPendulum hi (fun p1 p2 => ?_) kN)
  refine bX10_swing_4 hi (mX10_needTick hi (fun t1 t2 => ?_) (kI ⟨p1, p2⟩))
  refine bX10_swing_8 hi ?_
  rw [i32_nat p1, i32_nat t1]
  refine mX2_where (r := 3) hi rfl (by omega) (by omega) (hf _ (by omega)).ok hfd (fun h' hS hfd' => ?_)
  exact bX10_swing_17 (hS.iv hi) (k h' ⟨p1, p2⟩ ⟨t1, t2⟩ hS hfd')
/-- pen(tick, axis) -/
theorem mX10_pen {t ax : Int32} (hi : Iv h) (hf : FR h 3) (hc : CR h 3) (hfd : FdOk h 3) (kN : ¬ (0 ≤ ax.toInt ∧ ax.toInt ≤ 1) → Th eN h Q) (kI : (0 ≤ ax.toInt ∧ ax.toInt ≤ 1) → ¬ (0 ≤ t.toInt ∧ t.toInt ≤ 9999) → Th eI h Q)
    (k : ∀ h', (0 ≤ ax.toInt ∧ ax.toInt ≤ 1) → (0 ≤ t.toInt ∧ t.toInt ≤ 9999) → Sm (cr 3) h h' → FdOk h' 3 → Q (.inl (some (.int (iI (pnF h 3 ax.toInt.toNat t.toInt.toNat))))) h') : WM G jX10_pen [.ref 0, .int t, .int ax] h Q := by
  refine eX10_pen hi ?_
  rw [show (1 : Int32) = iI 1 from by decide]
  refine mX10_needWhat ⟨by decide, by decide⟩ hi (fun p1 p2 => ?_) kN
  refine bX10_pen_5 hi (mX10_needTick hi (fun t1 t2 => ?_) (kI ⟨p1, p2⟩))
  refine bX10_pen_9 hi ?_
  rw [i32_nat p1, i32_nat t1]
  refine mX2_penAt (r := 3) hi rfl (by omega) (by omega) hf hc hfd (fun h' hS hfd' => ?_)
  have := k h' ⟨p1, p2⟩ ⟨t1, t2⟩ hS hfd'
  exact bX10_pen_18 (hS.iv hi) this
/-- count(what) -/
def cntV (h : mH) (w : Nat) : Int32 := match w with
  | 0 => gI h 3 4
  | 1 => gI h 3 5
  | 2 => gI h 33 1
  | 3 => gI h 33 3
  | 4 => gI h 33 5
  | 5 => gI h 1 1
  | n + 6 => gI h 82 n
theorem mX10_count {w : Int32} (hi : Iv h) (kN : ¬ (0 ≤ w.toInt ∧ w.toInt ≤ 10) → Th eN h Q) (k : 0 ≤ w.toInt → w.toInt ≤ 10 → Q (.inl (some (.int (cntV h w.toInt.toNat)))) h) : WM G jX10_count [.ref 0, .int w] h Q := by
  refine eX10_count hi ?_
  rw [show (10 : Int32) = iI 10 from by decide]
  refine mX10_needWhat ⟨by decide, by decide⟩ hi (fun p1 p2 => ?_) kN
  replace k := k p1 p2
  obtain ⟨n, hn⟩ : ∃ n : Nat, w.toInt = n := ⟨w.toInt.toNat, by omega⟩
  have hw : w = iI n := by rw [← hn, iI_self]
  have hn10 : n ≤ 10 := by omega
  rw [hn, Int.toNat_natCast] at k
  clear hn p1 p2 kN
  subst hw
  have e : ∀ c : Nat, c ≤ 10 → (iI (n : Int) = iI (c : Int) ↔ n = c) := fun c hc => by rw [iI_eq ⟨by omega, by omega⟩ ⟨by omega, by omega⟩]; omega
  refine bX10_count_6 hi ⟨fun c => ?_, fun c => ?_, fun c => ?_, fun c => ?_, fun c => ?_, fun c => ?_, fun c0 c1 c2 c3 c4 c5 => ?_⟩
  · rw [show (0 : Int32) = iI ((0 : Nat) : Int) from by decide, e _ (by omega)] at c; subst c; exact k
  · rw [show (1 : Int32) = iI ((1 : Nat) : Int) from by decide, e _ (by omega)] at c; subst c; exact k
  · rw [show (2 : Int32) = iI ((2 : Nat) : Int) from by decide, e _ (by omega)] at c; subst c; exact k
  · rw [show (3 : Int32) = iI ((3 : Nat) : Int) from by decide, e _ (by omega)] at c; subst c; exact k
  · rw [show (4 : Int32) = iI ((4 : Nat) : Int) from by decide, e _ (by omega)] at c; subst c; exact k
  · rw [show (5 : Int32) = iI ((5 : Nat) : Int) from by decide, e _ (by omega)] at c; subst c; exact k
  · rw [show (0 : Int32) = iI ((0 : Nat) : Int) from by decide, e _ (by omega)] at c0
    rw [show (1 : Int32) = iI ((1 : Nat) : Int) from by decide, e _ (by omega)] at c1
    rw [show (2 : Int32) = iI ((2 : Nat) : Int) from by decide, e _ (by omega)] at c2
    rw [show (3 : Int32) = iI ((3 : Nat) : Int) from by decide, e _ (by omega)] at c3
    rw [show (4 : Int32) = iI ((4 : Nat) : Int) from by decide, e _ (by omega)] at c4
    rw [show (5 : Int32) = iI ((5 : Nat) : Int) from by decide, e _ (by omega)] at c5
    obtain ⟨m, rfl⟩ : ∃ m, n = m + 6 := ⟨n - 6, by omega⟩
    have e6 : iI ((m + 6 : Nat) : Int) - 6 = iI (m : Int) := by
      rw [show (6 : Int32) = iI 6 from by decide, iI_sub]; congr 1; omega
    have hx : (iI (m : Int)).toNatClampNeg = m := by rw [iI_ix ⟨by omega, by omega⟩]; rfl
    refine ⟨by rw [e6]; exact iI_in (by omega) (by omega) (by omega), ?_⟩
    rw [e6, hx]
    exact k
end CLASS1
