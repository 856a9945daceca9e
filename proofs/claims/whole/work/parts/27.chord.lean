section CHORD
variable {G : GX} {h : mH} {Q : mO → mH → Prop}
/-- the first best of what is good below a bound: (its number, its cost) -/
def fb1 (g : Bool) (k c : Nat) (s : Option (Nat × Nat)) : Option (Nat × Nat) := if g then (match s with | none => some (k, c) | some (r, d) => if c < d then some (k, c) else some (r, d)) else s
def fb (g : Nat → Bool) (mv : Nat → Nat) : Nat → Option (Nat × Nat)
  | 0 => none
  | k + 1 => fb1 (g k) k (mv k) (fb g mv k)
def oC : Option (Nat × Nat) → Int | none => -1 | some (_, c) => c
def oR : Option (Nat × Nat) → Int | none => -1 | some (r, _) => r
def oL : Option (Nat × Nat) → Int | none => 0 | some (_, c) => c
def sndC (l0 l2 a b k : Nat) : Bool := (l0 + k / 10) * b == (l2 + k % 10) * a
def mvC (p0 p2 k : Nat) : Nat := (((k / 10 : Nat) : Int) - p0).natAbs + (((k % 10 : Nat) : Int) - p2).natAbs
theorem mvC_b {p0 p2 k : Nat} (h0 : p0 ≤ 9) (h2 : p2 ≤ 9) (hk : k < 100) : mvC p0 p2 k ≤ 18 := by unfold mvC; omega
theorem fb_b {g : Nat → Bool} {mv : Nat → Nat} {B : Nat} : ∀ n, (∀ k, k < n → mv k ≤ B) → ∀ r c, fb g mv n = some (r, c) → r < n ∧ c ≤ B
  | 0, _, r, c, e => by cases e
  | n + 1, hB, r, c, e => by
    have ih := fb_b (g := g) n (fun k hk => hB k (by omega))
    have hn := hB n (by omega)
    unfold fb fb1 at e
    split at e
    · split at e
      · cases e
        exact ⟨by omega, hn⟩
      · rename_i r' d he
        split at e
        · cases e
          exact ⟨by omega, hn⟩
        · cases e
          have := ih _ _ he
          exact ⟨by omega, this.2⟩
    · have := ih _ _ e
      exact ⟨by omega, this.2⟩
/-- one more: what the class and the model do with it -/
theorem fb_skip {g : Nat → Bool} {mv : Nat → Nat} {n : Nat} (hg : g n = false) : fb g mv (n + 1) = fb g mv n := by
  conv => lhs; unfold fb fb1
  rw [hg]; rfl
theorem fb_first {g : Nat → Bool} {mv : Nat → Nat} {n : Nat} (hg : g n = true) (hs : fb g mv n = none) : fb g mv (n + 1) = some (n, mv n) := by
  unfold fb fb1
  rw [hg, hs]; rfl
theorem fb_less {g : Nat → Bool} {mv : Nat → Nat} {n r d : Nat} (hg : g n = true) (hs : fb g mv n = some (r, d)) (hl : mv n < d) : fb g mv (n + 1) = some (n, mv n) := by
  unfold fb fb1
  rw [hg, hs]
  exact if_pos hl
theorem fb_more {g : Nat → Bool} {mv : Nat → Nat} {n r d : Nat} (hs : fb g mv n = some (r, d)) (hl : d ≤ mv n) : fb g mv (n + 1) = fb g mv n := by
  conv => lhs; unfold fb fb1
  rw [hs]
  split
  · exact if_neg (by omega)
  · rfl
def chV (h : mH) (a2 a4 : Nat) (a b w : Int32) : Int :=
  let s := fb (sndC (gI h a2 0).toInt.toNat (gI h a2 2).toInt.toNat a.toInt.toNat b.toInt.toNat) (mvC (gI h a4 0).toInt.toNat (gI h a4 2).toInt.toNat) 100
  if w = 0 then oC s else oR s
theorem snd_iI {l0 l2 a b f s : Nat} (h1 : l0 ≤ 40) (h2 : l2 ≤ 40) (h3 : a ≤ 12) (h4 : b ≤ 12) (hf : f ≤ 9) (hs : s ≤ 9) : ((iI (l0 : Int) + iI (f : Int)) * iI (b : Int) = (iI (l2 : Int) + iI (s : Int)) * iI (a : Int)) ↔ sndC l0 l2 a b (10 * f + s) = true := by
  have hm1 : (l0 + f) * b ≤ 49 * 12 := Nat.mul_le_mul (by omega) h4
  have hm2 : (l2 + s) * a ≤ 49 * 12 := Nat.mul_le_mul (by omega) h3
  have hd : (10 * f + s) / 10 = f := by omega
  have hr : (10 * f + s) % 10 = s := by omega
  rw [iI_add, iI_add, iI_mul, iI_mul, ← Int.natCast_add, ← Int.natCast_add, ← Int.natCast_mul, ← Int.natCast_mul, iI_eq ⟨by omega, by omega⟩ ⟨by omega, by omega⟩]
  unfold sndC
  rw [hd, hr]
  simp only [beq_iff_eq]
  omega
theorem mv_iI {p0 p2 f s : Nat} (h0 : p0 ≤ 9) (h2 : p2 ≤ 9) (hf : f ≤ 9) (hs : s ≤ 9) : fJ9_abs_0f7a4 (iI (f : Int) - iI (p0 : Int)) + fJ9_abs_0f7a4 (iI (s : Int) - iI (p2 : Int)) = iI (mvC p0 p2 (10 * f + s) : Nat) := by
  have hd : (10 * f + s) / 10 = f := by omega
  have hr : (10 * f + s) % 10 = s := by omega
  rw [iI_sub, iI_sub, abs_iI (by omega) (by omega), abs_iI (by omega) (by omega), iI_add, ← Int.natCast_add]
  unfold mvC
  rw [hd, hr]
theorem mvM_iI {p0 p2 f s : Nat} (h0 : p0 ≤ 9) (h2 : p2 ≤ 9) (hf : f ≤ 9) (hs : s ≤ 9) : fX11_size (iI (f : Int) - iI (p0 : Int)) + fX11_size (iI (s : Int) - iI (p2 : Int)) = iI (mvC p0 p2 (10 * f + s) : Nat) := by
  have hd : (10 * f + s) / 10 = f := by omega
  have hr : (10 * f + s) % 10 = s := by omega
  rw [iI_sub, iI_sub, size_iI (by omega) (by omega), size_iI (by omega) (by omega), iI_add, ← Int.natCast_add]
  unfold mvC
  rw [hd, hr]
theorem m1_iI : (-1 : Int32) = iI (-1) := by decide
def w112 (v : Int32) : Prop := 1 ≤ v.toInt ∧ v.toInt ≤ 12
theorem mX10_chord {a b w : Int32} (hi : Iv h) (hf : FR h 3) (kN : ¬ (0 ≤ w.toInt ∧ w.toInt ≤ 1) → Th eN h Q) (kI : (0 ≤ w.toInt ∧ w.toInt ≤ 1) → ¬ (w112 a ∧ w112 b) → Th eI h Q)
    (k : (0 ≤ w.toInt ∧ w.toInt ≤ 1) → w112 a ∧ w112 b → Q (.inl (some (.int (iI (chV h 5 7 a b w))))) h) : WM G jX10_chord [.ref 0, .int a, .int b, .int w] h Q := by
  refine eX10_chord hi ?_
  rw [show (1 : Int32) = iI 1 from by decide]
  refine mX10_needWhat ⟨by decide, by decide⟩ hi (fun w1 w2 => ?_) kN
  refine bX10_chord_5 hi ?_
  rw [show (1 : Int32) = iI 1 from by decide, show (12 : Int32) = iI 12 from by decide]
  refine mX10_needWithin ⟨by decide, by decide⟩ ⟨by decide, by decide⟩ hi (fun a1 a2 => ?_) (fun c => kI ⟨w1, w2⟩ (fun z => c z.1))
  refine bX10_chord_12 hi ?_
  rw [show (1 : Int32) = iI 1 from by decide, show (12 : Int32) = iI 12 from by decide]
  refine mX10_needWithin ⟨by decide, by decide⟩ ⟨by decide, by decide⟩ hi (fun b1 b2 => ?_) (fun c => kI ⟨w1, w2⟩ (fun z => c z.2))
  refine bX10_chord_19 hi ?_
  have k' := k ⟨w1, w2⟩ ⟨⟨a1, a2⟩, ⟨b1, b2⟩⟩
  unfold chV at k'
  have f0 := hf 0 (by omega)
  have f2 := hf 2 (by omega)
  obtain ⟨_, ⟨x1, x2⟩, _, ⟨x3, x4⟩, _⟩ := f0
  obtain ⟨_, ⟨y1, y2⟩, _, ⟨y3, y4⟩, _⟩ := f2
  have el0 : gI h 5 0 = iI ((gI h 5 0).toInt.toNat : Nat) := i32_nat (by have : 2 ≤ (gI h 5 0).toInt := x1; omega)
  have el2 : gI h 5 2 = iI ((gI h 5 2).toInt.toNat : Nat) := i32_nat (by have : 2 ≤ (gI h 5 2).toInt := y1; omega)
  have ep0 : gI h 7 0 = iI ((gI h 7 0).toInt.toNat : Nat) := i32_nat x3
  have ep2 : gI h 7 2 = iI ((gI h 7 2).toInt.toNat : Nat) := i32_nat y3
  have ea := i32_nat (v := a) (by omega)
  have eb := i32_nat (v := b) (by omega)
  have bl0 : (gI h 5 0).toInt.toNat ≤ 40 := by have : (gI h 5 0).toInt ≤ 40 := x2; omega
  have bl2 : (gI h 5 2).toInt.toNat ≤ 40 := by have : (gI h 5 2).toInt ≤ 40 := y2; omega
  have bp0 : (gI h 7 0).toInt.toNat ≤ 9 := by have : (gI h 7 0).toInt ≤ 9 := x4; omega
  have bp2 : (gI h 7 2).toInt.toNat ≤ 9 := by have : (gI h 7 2).toInt ≤ 9 := y4; omega
  have ba : a.toInt.toNat ≤ 12 := by omega
  have bb : b.toInt.toNat ≤ 12 := by omega
  rw [ea, eb]
  generalize hA : a.toInt.toNat = A at *
  generalize hB : b.toInt.toNat = B at *
  generalize hL0 : (gI h 5 0).toInt.toNat = l0 at *
  generalize hL2 : (gI h 5 2).toInt.toNat = l2 at *
  generalize hP0 : (gI h 7 0).toInt.toNat = p0 at *
  generalize hP2 : (gI h 7 2).toInt.toNat = p2 at *
  have st : ∀ n, n ≤ 100 → ∀ r c, fb (sndC l0 l2 A B) (mvC p0 p2) n = some (r, c) → r < n ∧ c ≤ 18 := fun n hn => fb_b n (fun k hk => mvC_b bp0 bp2 (by omega))
  have outer : ∀ m f : Nat, f + m = 10 → Vw G jX10_chord 28 [some (.ref 0), some (.int (iI A)), some (.int (iI B)), some (.int w), some (.int (iI (oC (fb (sndC l0 l2 A B) (mvC p0 p2) (10 * f))))), some (.int (iI (oR (fb (sndC l0 l2 A B) (mvC p0 p2) (10 * f))))), some (.int (iI f)), none, none, none] [] h Q := by
    intro m
    induction m with
    | zero =>
      intro f hfm
      have : f = 10 := by omega
      subst this
      refine bX10_chord_28 hi ⟨fun _ => ⟨fun c => ?_, fun c => ?_⟩, fun c => absurd (by decide) c⟩
      · rw [if_neg c] at k'; exact k'
      · rw [if_pos c] at k'; exact k'
    | succ m ih =>
      intro f hfm
      have inner : ∀ d s : Nat, s + d = 10 → Vw G jX10_chord 38 [some (.ref 0), some (.int (iI A)), some (.int (iI B)), some (.int w), some (.int (iI (oC (fb (sndC l0 l2 A B) (mvC p0 p2) (10 * f + s))))), some (.int (iI (oR (fb (sndC l0 l2 A B) (mvC p0 p2) (10 * f + s))))), some (.int (iI f)), some (.int (iI s)), none, none] [] h Q := by
        intro d
        induction d with
        | zero =>
          intro s hsd
          have : s = 10 := by omega
          subst this
          refine bX10_chord_38 hi ⟨fun _ => ?_, fun c => absurd (by decide) c⟩
          have := ih (f + 1) (by omega)
          rw [show iI (f : Int) + 1 = iI ((f + 1 : Nat) : Int) from by rw [iI_lit 1, iI_add]; congr 1]
          exact this
        | succ d ihd =>
          intro s hsd
          have next : ∀ x y : Int, x = oC (fb (sndC l0 l2 A B) (mvC p0 p2) (10 * f + s + 1)) → y = oR (fb (sndC l0 l2 A B) (mvC p0 p2) (10 * f + s + 1)) → Vw G jX10_chord 148 [some (.ref 0), some (.int (iI A)), some (.int (iI B)), some (.int w), some (.int (iI x)), some (.int (iI y)), some (.int (iI f)), some (.int (iI s)), none, none] [] h Q := by
            intro x y hx hy
            subst hx hy
            refine bX10_chord_148 hi ?_
            rw [show iI (s : Int) + 1 = iI ((s + 1 : Nat) : Int) from by rw [iI_lit 1, iI_add]; congr 1]
            exact ihd (s + 1) (by omega)
          have take : fb (sndC l0 l2 A B) (mvC p0 p2) (10 * f + s + 1) = some (10 * f + s, mvC p0 p2 (10 * f + s)) → Vw G jX10_chord 134 [some (.ref 0), some (.int (iI A)), some (.int (iI B)), some (.int w), none, none, some (.int (iI f)), some (.int (iI s)), some (.int (iI (mvC p0 p2 (10 * f + s) : Nat))), none] [] h Q := by
            intro e
            refine bX10_chord_134 hi ?_
            rw [show (10 : Int32) * iI (f : Int) + iI (s : Int) = iI ((10 * f + s : Nat) : Int) from by rw [show (10 : Int32) = iI 10 from by decide, iI_mul, iI_add]; congr 1]
            exact next _ _ (by rw [e]; rfl) (by rw [e]; rfl)
          refine bX10_chord_38 hi ⟨fun c => ?_, fun _ => ?_⟩
          · rw [show (9 : Int32) = iI 9 from by decide, iI_lt ⟨by decide, by decide⟩ ⟨by omega, by omega⟩] at c
            omega
          rw [el0, el2, ep0, ep2, snd_iI bl0 bl2 ba bb (by omega) (by omega), mv_iI bp0 bp2 (by omega) (by omega)]
          refine ⟨fun c => ?_, fun c => ?_⟩
          · have e := fb_skip (mv := mvC p0 p2) (Bool.eq_false_iff.mpr c)
            exact next _ _ (by rw [e]) (by rw [e])
          · cases hs : fb (sndC l0 l2 A B) (mvC p0 p2) (10 * f + s) with
            | none => exact ⟨fun _ => take (fb_first c hs), fun z => absurd rfl z⟩
            | some rc =>
              obtain ⟨r, d'⟩ := rc
              obtain ⟨sr, sc⟩ := st _ (by omega) _ _ hs
              have hmb := mvC_b (k := 10 * f + s) bp0 bp2 (by omega)
              refine ⟨fun z => ?_, fun _ => ⟨fun z => ?_, fun z => ?_⟩⟩
              · rw [m1_iI, show oC (some (r, d')) = (d' : Int) from rfl, iI_eq ⟨by omega, by omega⟩ ⟨by decide, by decide⟩] at z
                omega
              · rw [show oC (some (r, d')) = (d' : Int) from rfl, iI_le ⟨by omega, by omega⟩ ⟨by omega, by omega⟩] at z
                have e := fb_more (g := sndC l0 l2 A B) hs (show d' ≤ mvC p0 p2 (10 * f + s) by omega)
                rw [hs] at e
                exact next _ _ (by rw [e]) (by rw [e])
              · rw [show oC (some (r, d')) = (d' : Int) from rfl, iI_le ⟨by omega, by omega⟩ ⟨by omega, by omega⟩] at z
                exact take (fb_less c hs (by omega))
      refine bX10_chord_28 hi ⟨fun c => ?_, fun _ => ?_⟩
      · rw [show (9 : Int32) = iI 9 from by decide, iI_lt ⟨by decide, by decide⟩ ⟨by omega, by omega⟩] at c
        omega
      · exact inner 10 0 (by omega)
  exact outer 10 0 (by omega)
theorem mX11_chord {a b w : Int32} (hi : Iv h) (hm : MR h 87 0) (kN : ¬ (0 ≤ w.toInt ∧ w.toInt ≤ 1) → Q (.inl (some (.int 0))) (pI (pI h 83 0 0) 83 0 1)) (kI : (0 ≤ w.toInt ∧ w.toInt ≤ 1) → ¬ (w112 a ∧ w112 b) → Q (.inl (some (.int 0))) (pI (pI h 83 0 0) 83 0 2))
    (k : (0 ≤ w.toInt ∧ w.toInt ≤ 1) → w112 a ∧ w112 b → Q (.inl (some (.int (iI (chV h 85 87 a b w))))) (pI h 83 0 0)) : WM G jX11_chord [.ref 83, .int a, .int b, .int w] h Q := by
  have hi0 : Iv (pI h 83 0 0) := hi
  have h00 : gI (pI h 83 0 0) 83 0 = 0 := by rw [gI_pI]; rfl
  have e0 : w = 0 ↔ w.toInt = 0 := by rw [i32_0, i32_eq ⟨by decide, by decide⟩]
  have e1 : w = 1 ↔ w.toInt = 1 := by rw [show (1 : Int32) = iI 1 from by decide, i32_eq ⟨by decide, by decide⟩]
  suffices go : (0 ≤ w.toInt ∧ w.toInt ≤ 1) → Vw G jX11_chord 24 [some (.ref 83), some (.int a), some (.int b), some (.int w), none, none, none, none] [.int 1] (pI h 83 0 0) Q by
    refine eX11_chord hi ⟨fun c => mX11_right1 hi0 h00 (by decide) (go ?_), fun c => ⟨fun c1 => mX11_right0 hi0 h00 (by decide) (bX11_chord_24 (h := pI (pI h 83 0 0) 83 0 1) hi ⟨fun _ => kN ?_, fun z => absurd rfl z⟩), fun c1 => mX11_right1 hi0 h00 (by decide) (go ?_)⟩⟩
    · rw [e0] at c; omega
    · rw [e0] at c; rw [e1] at c1; omega
    · rw [e1] at c1; omega
  intro hw
  have r0 : ∀ z : ¬ (w112 a ∧ w112 b), WM G jX11_right [.ref 83, .int 0, .int 2] (pI h 83 0 0) (Aft G jX11_chord 54 [some (.ref 83), some (.int a), some (.int b), some (.int w), none, none, none, none] [] Q) := fun z => mX11_right0 hi0 h00 (by decide) (bX11_chord_57 (h := pI (pI h 83 0 0) 83 0 2) hi ⟨fun c => absurd rfl c, fun _ => kI hw z⟩)
  have wa : fX11_within a 1 12 = 0 ↔ ¬ w112 a := within_0 (a := 1) (b := 12) ⟨by decide, by decide⟩ ⟨by decide, by decide⟩
  have wb : fX11_within b 1 12 = 0 ↔ ¬ w112 b := within_0 (a := 1) (b := 12) ⟨by decide, by decide⟩ ⟨by decide, by decide⟩
  refine bX11_chord_24 hi0 ⟨fun c => absurd c (by decide), fun _ => ⟨fun c => r0 (fun z => (wa.mp c) z.1), fun ca => ⟨fun c => r0 (fun z => (wb.mp c) z.2), fun cb => mX11_right1 hi0 h00 (by decide) (bX11_chord_57 hi0 ⟨fun _ => ?_, fun c => absurd c (by decide)⟩)⟩⟩⟩
  rw [wa] at ca
  rw [wb] at cb
  have ca := Classical.not_not.mp ca
  have cb := Classical.not_not.mp cb
  have k' := k hw ⟨ca, cb⟩
  obtain ⟨a1, a2⟩ := ca
  obtain ⟨b1, b2⟩ := cb
  unfold chV at k'
  obtain ⟨_, ⟨x1, x2⟩, _, ⟨x3, x4⟩, _⟩ := hm 0 (by omega)
  obtain ⟨_, ⟨y1, y2⟩, _, ⟨y3, y4⟩, _⟩ := hm 2 (by omega)
  have gl0 : gI (pI h 83 0 0) 85 0 = iI ((gI h 85 0).toInt.toNat : Nat) := i32_nat (v := gI h 85 0) (by omega)
  have gl2 : gI (pI h 83 0 0) 85 2 = iI ((gI h 85 2).toInt.toNat : Nat) := i32_nat (v := gI h 85 2) (by omega)
  have gp0 : gI (pI h 83 0 0) 87 0 = iI ((gI h 87 0).toInt.toNat : Nat) := i32_nat (v := gI h 87 0) x3
  have gp2 : gI (pI h 83 0 0) 87 2 = iI ((gI h 87 2).toInt.toNat : Nat) := i32_nat (v := gI h 87 2) y3
  have ea := i32_nat (v := a) (by omega)
  have eb := i32_nat (v := b) (by omega)
  have bl0 : (gI h 85 0).toInt.toNat ≤ 40 := by omega
  have bl2 : (gI h 85 2).toInt.toNat ≤ 40 := by omega
  have bp0 : (gI h 87 0).toInt.toNat ≤ 9 := by have : (gI h 87 0).toInt ≤ 9 := x4; omega
  have bp2 : (gI h 87 2).toInt.toNat ≤ 9 := by have : (gI h 87 2).toInt ≤ 9 := y4; omega
  have ba : a.toInt.toNat ≤ 12 := by omega
  have bb : b.toInt.toNat ≤ 12 := by omega
  rw [ea, eb]
  generalize hA : a.toInt.toNat = A at *
  generalize hB : b.toInt.toNat = B at *
  generalize hL0 : (gI h 85 0).toInt.toNat = l0 at *
  generalize hL2 : (gI h 85 2).toInt.toNat = l2 at *
  generalize hP0 : (gI h 87 0).toInt.toNat = p0 at *
  generalize hP2 : (gI h 87 2).toInt.toNat = p2 at *
  have st : ∀ n, n ≤ 100 → ∀ r c, fb (sndC l0 l2 A B) (mvC p0 p2) n = some (r, c) → r < n ∧ c ≤ 18 := fun n hn => fb_b n (fun k hk => mvC_b bp0 bp2 (by omega))
  have loop : ∀ m i : Nat, i + m = 100 → Vw G jX11_chord 71 [some (.ref 83), some (.int (iI A)), some (.int (iI B)), some (.int w), some (.int (iI (oR (fb (sndC l0 l2 A B) (mvC p0 p2) i)))), some (.int (iI (oL (fb (sndC l0 l2 A B) (mvC p0 p2) i)))), some (.int (iI i)), none] [] (pI h 83 0 0) Q := by
    intro m
    induction m with
    | zero =>
      intro i him
      have : i = 100 := by omega
      subst this
      refine bX11_chord_71 hi0 ⟨fun _ => ?_, fun c => absurd (by decide) c⟩
      cases hs : fb (sndC l0 l2 A B) (mvC p0 p2) 100 with
      | none =>
        rw [hs] at k'
        refine ⟨fun _ => ?_, fun z => absurd rfl z⟩
        rw [show (if w = 0 then oC none else oR none) = (-1 : Int) from by split <;> rfl] at k'
        exact k'
      | some rc =>
        obtain ⟨r, d⟩ := rc
        obtain ⟨sr, sc⟩ := st _ (by omega) _ _ hs
        rw [hs] at k'
        refine ⟨fun z => ?_, fun _ => ⟨fun z => ?_, fun z => ?_⟩⟩
        · rw [m1_iI, show oR (some (r, d)) = (r : Int) from rfl, iI_eq ⟨by omega, by omega⟩ ⟨by decide, by decide⟩] at z
          omega
        · rw [e1] at z
          rw [if_pos (by rw [e0]; omega)] at k'
          exact k'
        · rw [e1] at z
          rw [if_neg (by rw [e0]; omega)] at k'
          exact k'
    | succ m ih =>
      intro i him
      obtain ⟨f, s, hfs, hf9, hs9⟩ : ∃ f s : Nat, i = 10 * f + s ∧ f ≤ 9 ∧ s ≤ 9 := ⟨i / 10, i % 10, by omega, by omega, by omega⟩
      have ed : iI (i : Int) / (10 : Int32) = iI (f : Int) := by
        rw [show (10 : Int32) = iI 10 from by decide, iI_div ⟨by omega, by omega⟩ ⟨by decide, by decide⟩, Int.tdiv_eq_ediv_of_nonneg (by omega)]
        congr 1; omega
      have er : iI (i : Int) - iI (i : Int) / (10 : Int32) * (10 : Int32) = iI (s : Int) := by
        rw [ed, show (10 : Int32) = iI 10 from by decide, iI_mul, iI_sub]
        congr 1; omega
      have next : ∀ x y : Int, x = oR (fb (sndC l0 l2 A B) (mvC p0 p2) (i + 1)) → y = oL (fb (sndC l0 l2 A B) (mvC p0 p2) (i + 1)) → Vw G jX11_chord 169 [some (.ref 83), some (.int (iI A)), some (.int (iI B)), some (.int w), some (.int (iI x)), some (.int (iI y)), some (.int (iI i)), none] [] (pI h 83 0 0) Q := by
        intro x y hx hy
        subst hx hy
        refine bX11_chord_169 hi0 ?_
        rw [show iI (i : Int) + 1 = iI ((i + 1 : Nat) : Int) from by rw [iI_lit 1, iI_add]; congr 1]
        exact ih (i + 1) (by omega)
      have take : fb (sndC l0 l2 A B) (mvC p0 p2) (i + 1) = some (i, mvC p0 p2 i) → Vw G jX11_chord 161 [some (.ref 83), some (.int (iI A)), some (.int (iI B)), some (.int w), none, none, some (.int (iI i)), some (.int (iI (mvC p0 p2 i : Nat)))] [] (pI h 83 0 0) Q := by
        intro e
        exact bX11_chord_161 hi0 (next _ _ (by rw [e]; rfl) (by rw [e]; rfl))
      refine bX11_chord_71 hi0 ⟨fun c => ?_, fun _ => ?_⟩
      · rw [show (100 : Int32) = iI 100 from by decide, iI_le ⟨by decide, by decide⟩ ⟨by omega, by omega⟩] at c
        omega
      rw [er, ed, gl0, gl2, gp0, gp2, snd_iI bl0 bl2 ba bb hf9 hs9, mvM_iI bp0 bp2 hf9 hs9, ← hfs]
      refine ⟨fun c => ?_, fun c => ?_⟩
      · cases hs : fb (sndC l0 l2 A B) (mvC p0 p2) i with
        | none => exact ⟨fun _ => take (fb_first c hs), fun z => absurd rfl z⟩
        | some rc =>
          obtain ⟨r, d'⟩ := rc
          obtain ⟨sr, sc⟩ := st _ (by omega) _ _ hs
          have hmb := mvC_b (k := i) bp0 bp2 (by omega)
          refine ⟨fun z => ?_, fun _ => ⟨fun z => ?_, fun z => ?_⟩⟩
          · rw [m1_iI, show oR (some (r, d')) = (r : Int) from rfl, iI_eq ⟨by omega, by omega⟩ ⟨by decide, by decide⟩] at z
            omega
          · rw [show oL (some (r, d')) = (d' : Int) from rfl, iI_lt ⟨by omega, by omega⟩ ⟨by omega, by omega⟩] at z
            exact take (fb_less c hs (by omega))
          · rw [show oL (some (r, d')) = (d' : Int) from rfl, iI_lt ⟨by omega, by omega⟩ ⟨by omega, by omega⟩] at z
            have e := fb_more (g := sndC l0 l2 A B) hs (show d' ≤ mvC p0 p2 i by omega)
            rw [hs] at e
            exact next _ _ (by rw [e]) (by rw [e])
      · have e := fb_skip (mv := mvC p0 p2) (Bool.eq_false_iff.mpr c)
        exact next _ _ (by rw [e]) (by rw [e])
  exact loop 100 0 (by omega)
end CHORD
