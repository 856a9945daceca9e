section ALIKE
variable {G : GX} {h : mH} {Q : mO → mH → Prop}
theorem fsV_m1 {f : Nat → Bool} : ∀ n, fsV f n = -1 → ∀ i, i < n → f i = false
  | 0, _, i, hi => absurd hi (by omega)
  | n + 1, e, i, hi => by
    unfold fsV at e
    split at e
    · rename_i e1
      split at e
      · omega
      · by_cases hin : i = n
        · subst hin
          rename_i hf
          simpa using hf
        · exact fsV_m1 n e1 i (by omega)
    · contradiction
theorem fsV_at {f : Nat → Bool} : ∀ n, fsV f n ≠ -1 → f (fsV f n).toNat = true ∧ ∀ i, i < (fsV f n).toNat → f i = false
  | 0, e => absurd rfl e
  | n + 1, e => by
    unfold fsV at e ⊢
    by_cases e1 : fsV f n = -1
    · rw [if_pos e1] at e ⊢
      split at e
      · rename_i hf
        rw [if_pos hf]
        exact ⟨by simpa using hf, fun i hi => fsV_m1 n e1 i (by omega)⟩
      · exact absurd rfl e
    · rw [if_neg e1]
      exact fsV_at n e1
theorem fsV_st {f : Nat → Bool} {n : Nat} (hn : fsV f n ≠ -1) : ∀ e, fsV f (n + e) = fsV f n
  | 0 => rfl
  | e + 1 => by
    show fsV f (n + e + 1) = _
    conv => lhs; unfold fsV
    rw [fsV_st hn e, if_neg hn]
theorem fsV_1 {f : Nat → Bool} {n : Nat} (e : fsV f n = -1) (hf : f n = true) : fsV f (n + 1) = n := by
  unfold fsV
  rw [if_pos e, if_pos hf]
theorem fsV_0 {f : Nat → Bool} {n : Nat} (hf : f n = false) : fsV f (n + 1) = fsV f n := by
  conv => lhs; unfold fsV
  split
  · rename_i e
    rw [hf, e]; rfl
  · rfl
def ld (s : Nat → Nat) (p : Nat) : Bool := decide (0 < s p)
def okA (kk s1 s2 pe1 pe2 bc : Nat → Nat) (p : Nat) : Prop := (0 < s1 p ↔ 0 < s2 (bc p)) ∧ (0 < s1 p → kk p = kk (bc p) ∧ pe1 p = pe2 (bc p) ∧ s2 (bc p) * s1 (fsV (ld s1) (p + 1)).toNat = s2 (bc (fsV (ld s1) (p + 1)).toNat) * s1 p)
theorem ld_f {s : Nat → Nat} {p : Nat} (hl : 0 < s p) : fsV (ld s) (p + 1) ≠ -1 ∧ (fsV (ld s) (p + 1)).toNat ≤ p ∧ 0 < s (fsV (ld s) (p + 1)).toNat := by
  have hne : fsV (ld s) (p + 1) ≠ -1 := fun e => by
    have := fsV_m1 (p + 1) e p (by omega)
    unfold ld at this
    rw [decide_eq_true hl] at this
    cases this
  have h1 := fsV_b (ld s) (p + 1)
  have h2 := (fsV_at (p + 1) hne).1
  have h3 : decide (0 < s (fsV (ld s) (p + 1)).toNat) = true := h2
  exact ⟨hne, by omega, of_decide_eq_true h3⟩
theorem AWy_ok {kk s1 s2 pe1 pe2 bc : Nat → Nat} : AWy kk s1 s2 pe1 pe2 bc ↔ ∀ p, p < 4 → okA kk s1 s2 pe1 pe2 bc p := by
  constructor
  · intro ha p hp
    obtain ⟨a1, a2, a3⟩ := ha p hp
    refine ⟨a1, fun hl => ?_⟩
    obtain ⟨f1, f2, f3⟩ := ld_f hl
    exact ⟨(a2 hl).1, (a2 hl).2, a3 _ (by omega) hl f3⟩
  · intro ha p hp
    obtain ⟨a1, a2⟩ := ha p hp
    refine ⟨a1, fun hl => ⟨(a2 hl).1, (a2 hl).2.1⟩, fun p' hp' hl hl' => ?_⟩
    obtain ⟨f1, f2, f3⟩ := ld_f hl
    obtain ⟨g1, g2, g3⟩ := ld_f hl'
    have e : fsV (ld s1) (p + 1) = fsV (ld s1) (p' + 1) := by
      have x1 := fsV_st f1 p'
      have x2 := fsV_st g1 p
      rw [← x1, ← x2]
      congr 1
      omega
    have b1 := (a2 hl).2.2
    have b2 := ((ha p' hp').2 hl').2.2
    rw [← e] at b2
    refine Nat.eq_of_mul_eq_mul_right f3 ?_
    generalize (fsV (ld s1) (p + 1)).toNat = f at *
    calc s2 (bc p) * s1 p' * s1 f = s2 (bc p) * s1 f * s1 p' := by rw [Nat.mul_assoc, Nat.mul_comm (s1 p'), Nat.mul_assoc]
      _ = s2 (bc f) * s1 p * s1 p' := by rw [b1]
      _ = s2 (bc f) * s1 p' * s1 p := by rw [Nat.mul_assoc, Nat.mul_comm (s1 p), Nat.mul_assoc]
      _ = s2 (bc p') * s1 f * s1 p := by rw [b2]
      _ = s2 (bc p') * s1 p * s1 f := by rw [Nat.mul_assoc, Nat.mul_comm (s1 f), Nat.mul_assoc]
/-- a frame's numbers -/
def FD (g : mH) (r : Nat) (kk s st pe : Nat → Nat) : Prop := ∀ p, p < 4 → gI g (r + 1) p = iI (kk p : Nat) ∧ gI g (r + 4) (8 + p) = iI (s p : Nat) ∧ gI g (r + 4) (4 + p) = iI (st p : Nat) ∧ gI g (r + 2) p + gI g (r + 4) p = iI (pe p : Nat) ∧ kk p ≤ 2 ∧ s p ≤ 90 ∧ st p ≤ 99 ∧ 2 ≤ pe p ∧ pe p ≤ 49
theorem FD_cg {S : Nat → Bool} {g g' : mH} (hS : Sm S g g') {r : Nat} {kk s st pe : Nat → Nat} (e : ∀ d, d ≤ 6 → S (r + d) = false) (hf : FD g r kk s st pe) : FD g' r kk s st pe := by
  intro p hp
  rw [hS.gI (e 1 (by omega)), hS.gI (e 2 (by omega)), hS.gI (e 4 (by omega)), hS.gI (e 4 (by omega)), hS.gI (e 4 (by omega))]
  exact hf p hp
def phi (c : Nat) : Nat := c / 4 + 2 * (c % 2) + 4 * (c / 2 % 2)
theorem phi_8 : ∀ c, c < 8 → phi c < 8 := by decide
theorem phi_on : ∀ w, w < 8 → ∃ c, c < 8 ∧ phi c = w := by decide
theorem pair_v : ∀ c, c < 8 → ∀ p, p < 4 → (2 * ((iI ((p : Nat) : Int) / (2 : Int32)) ^^^ (iI ((c : Nat) : Int) >>> ((2 : Int32) &&& 31)))) + ((iI ((p : Nat) : Int) - iI ((p : Nat) : Int) / (2 : Int32) * (2 : Int32)) ^^^ ((iI ((c : Nat) : Int) >>> (((iI ((p : Nat) : Int) / (2 : Int32)) ^^^ (iI ((c : Nat) : Int) >>> ((2 : Int32) &&& 31))) &&& 31)) &&& (1 : Int32))) = iI ((bcM (phi c) p : Nat) : Int) := by decide +kernel
theorem mX4_pair {c : Nat} (hi : Iv h) (hc : c < 8) (k : ∀ g, Sm (fun o => o == 69) h g → (∀ p, p < 4 → gI g 69 p = iI (bcM (phi c) p : Nat)) → Q (.inl none) g) : WM G jX4_pair [.ref 68, .int (iI c)] h Q := by
  refine eX4_pair hi ?_
  rw [n_0]
  have loop : ∀ (d p : Nat) (g : mH), p + d = 4 → Sm (fun o => o == 69) h g → (∀ p', p' < p → gI g 69 p' = iI (bcM (phi c) p' : Nat)) → Vw G jX4_pair 2 [some (.ref 68), some (.int (iI c)), some (.int (iI p)), none, none] [] g Q := by
    intro d
    induction d with
    | zero =>
      intro p g hp hS hg
      have : p = 4 := by omega
      subst this
      exact bX4_pair_2 (hS.iv hi) ⟨fun _ => k g hS hg, fun z => absurd (by decide) z⟩
    | succ d ih =>
      intro p g hp hS hg
      have e1 : iI (p : Int) + 1 = iI ((p + 1 : Nat) : Int) := by rw [n_1, ad_n]
      refine bX4_pair_2 (hS.iv hi) ⟨fun z => ?_, fun _ => ?_⟩
      · rw [n_4, le_n (by omega) (by omega)] at z
        omega
      · rw [pair_v c hc p (by omega), ix_n (by omega), e1]
        refine ⟨in_n (by omega) (by omega), ih (p + 1) _ (by omega) (hS.pI rfl _ _) (fun p' hp' => ?_)⟩
        rw [gI_pI]
        by_cases e : p' = p
        · subst e
          rw [if_pos ⟨rfl, rfl⟩]
        · rw [if_neg (by omega)]
          exact hg p' (by omega)
  exact loop 4 0 h (by omega) Sm.rf (fun p' hp' => absurd hp' (by omega))
theorem mX4_agree {r1 r2 : Nat} {kk s1 s2 st1 st2 pe1 pe2 bc : Nat → Nat} (hi : Iv h) (k1 : kd r1 = (2, 11)) (k2 : kd r2 = (2, 11)) (f1 : FD h r1 kk s1 st1 pe1) (f2 : FD h r2 kk s2 st2 pe2) (hbc : ∀ p, p < 4 → gI h 69 p = iI (bc p : Nat) ∧ bc p < 4)
    (ky : AWy kk s1 s2 pe1 pe2 bc → Q (.inl (some (.int 1))) h) (kn : ¬ AWy kk s1 s2 pe1 pe2 bc → Q (.inl (some (.int 0))) h) : WM G jX4_agree [.ref 68, .ref r1, .ref r2] h Q := by
  rw [AWy_ok] at ky kn
  refine eX4_agree hi k1 k2 ?_
  have loop : ∀ (d p : Nat), p + d = 4 → (∀ p', p' < p → okA kk s1 s2 pe1 pe2 bc p') → Vw G jX4_agree 5 [some (.ref 68), some (.ref r1), some (.ref r2), some (.int (iI (fsV (ld s1) p))), some (.int (iI p)), none, none, none, none, none, none] [] h Q := by
    intro d
    induction d with
    | zero =>
      intro p hp ho
      have : p = 4 := by omega
      subst this
      exact bX4_agree_5 hi k1 k2 ⟨fun _ => ky ho, fun z => absurd (by decide) z⟩
    | succ d ih =>
      intro p hp ho
      have hp4 : p < 4 := by omega
      have e1 : iI (p : Int) + 1 = iI ((p + 1 : Nat) : Int) := by rw [n_1, ad_n]
      have e8 : ∀ x : Nat, (8 : Int32) + iI (x : Int) = iI ((8 + x : Nat) : Int) := fun x => by rw [n_8, ad_n]
      obtain ⟨b1, b2⟩ := hbc p hp4
      obtain ⟨a1, a2, a3, a4, a5, a6, a7, a8, a9⟩ := f1 p hp4
      obtain ⟨c1, c2, c3, c4, c5, c6, c7, c8, c9⟩ := f2 (bc p) b2
      have no : ¬ okA kk s1 s2 pe1 pe2 bc p → Q (.inl (some (.int 0))) h := fun z => kn (fun y => z (y p hp4))
      have fb := fsV_b (ld s1) p
      have next : okA kk s1 s2 pe1 pe2 bc p → Vw G jX4_agree 163 [some (.ref 68), some (.ref r1), some (.ref r2), some (.int (iI (fsV (ld s1) (p + 1)))), some (.int (iI p)), none, none, none, none, none, none] [] h Q := fun z => by
        refine bX4_agree_163 hi k1 k2 ?_
        rw [e1]
        refine ih (p + 1) (by omega) (fun p' hp' => ?_)
        by_cases e : p' = p
        · subst e; exact z
        · exact ho p' (by omega)
      have mid : (0 < s1 p ∨ 0 < s2 (bc p)) → Vw G jX4_agree 57 [some (.ref 68), some (.ref r1), some (.ref r2), some (.int (iI (fsV (ld s1) p))), some (.int (iI p)), some (.int (iI (bc p : Nat))), some (.int (iI (s1 p : Nat))), some (.int (iI (s2 (bc p) : Nat))), none, none, none] [] h Q := by
        intro hor
        refine bX4_agree_57 hi k1 k2 ⟨fun z => bX4_agree_71 hi k1 k2 (no ?_), fun z1 => ⟨fun z => bX4_agree_71 hi k1 k2 (no ?_), fun z2 => ?_⟩⟩
        · rw [n_0, le_n (by omega) (by omega)] at z
          exact fun y => by have := y.1; omega
        · rw [n_0, le_n (by omega) (by omega)] at z z1
          exact fun y => by have := y.1; omega
        · rw [n_0, le_n (by omega) (by omega)] at z1 z2
          have hl1 : 0 < s1 p := by omega
          have hl2 : 0 < s2 (bc p) := by omega
          rw [ix_n (by omega), ix_n (by omega), a1, c1]
          refine ⟨in_n (by omega) (by omega), in_n (by omega) (by omega), fun z => no (fun y => z ?_), fun z => ?_⟩
          · rw [(y.2 hl1).1]
          · rw [eq_n (by omega) (by omega)] at z
            refine mX2_period hi k1 hp4 ?_
            rw [a4]
            refine bX4_agree_102 hi k1 k2 (mX2_period hi k2 b2 ?_)
            rw [c4]
            obtain ⟨g1, g2, g3⟩ := ld_f hl1
            have gb := fsV_b (ld s1) (p + 1)
            obtain ⟨n, hn⟩ : ∃ n : Nat, fsV (ld s1) (p + 1) = n := ⟨(fsV (ld s1) (p + 1)).toNat, by omega⟩
            have hnn : (fsV (ld s1) (p + 1)).toNat = n := by omega
            have hn4 : n < 4 := by omega
            have last : pe1 p = pe2 (bc p) → Vw G jX4_agree 121 [some (.ref 68), some (.ref r1), some (.ref r2), some (.int (iI (fsV (ld s1) (p + 1)))), some (.int (iI p)), none, some (.int (iI (s1 p : Nat))), some (.int (iI (s2 (bc p) : Nat))), none, none, none] [] h Q := by
              intro hpe
              obtain ⟨m1, m2⟩ := hbc n hn4
              obtain ⟨u1, u2, u3, u4, u5, u6, u7, u8, u9⟩ := f1 n hn4
              obtain ⟨v1, v2, v3, v4, v5, v6, v7, v8, v9⟩ := f2 (bc n) m2
              rw [hn]
              have mb1 : s1 p * s2 (bc n) ≤ 90 * 90 := Nat.mul_le_mul a6 v6
              have mb2 : s2 (bc p) * s1 n ≤ 90 * 90 := Nat.mul_le_mul c6 u6
              refine bX4_agree_121 hi k1 k2 ?_
              rw [e8, ix_n (by omega), ix_n (by omega), m1, e8, ix_n (by omega), u2, v2, mu_n, mu_n]
              refine ⟨in_n (by omega) (by omega), in_n (by omega) (by omega), in_n (by omega) (by omega), fun y => ?_, fun y => no (fun w => y ?_)⟩
              · rw [eq_n (by omega) (by omega)] at y
                rw [← hn]
                refine next ⟨⟨fun _ => hl2, fun _ => hl1⟩, fun _ => ⟨z, hpe, ?_⟩⟩
                rw [hnn, ← y, Nat.mul_comm]
              · have := (w.2 hl1).2.2
                rw [hnn] at this
                rw [this, Nat.mul_comm]
            refine bX4_agree_108 hi k1 k2 ⟨fun y => ?_, fun y => no (fun w => y (by rw [(w.2 hl1).2.1]))⟩
            rw [eq_n (by omega) (by omega)] at y
            refine ⟨fun x => ?_, fun x => ?_⟩
            · have hne : fsV (ld s1) p ≠ -1 := fun e => x (by rw [e, m1_iI])
              have := last y
              rw [show fsV (ld s1) (p + 1) = fsV (ld s1) p from fsV_st hne 1] at this
              exact this
            · rw [m1_iI, iI_eq ⟨by omega, by omega⟩ ⟨by decide, by decide⟩] at x
              have := last y
              rw [fsV_1 x (by unfold ld; exact decide_eq_true hl1)] at this
              exact this
      refine bX4_agree_5 hi k1 k2 ⟨fun z => ?_, fun _ => ?_⟩
      · rw [n_4, le_n (by omega) (by omega)] at z
        omega
      · rw [ix_n (by omega), e8, ix_n (by omega), b1, e8, ix_n (by omega), a2, c2]
        refine ⟨in_n (by omega) (by omega), in_n (by omega) (by omega), in_n (by omega) (by omega), fun z => mid ?_, fun z => ⟨fun y => mid ?_, fun y => ?_⟩⟩
        · rw [n_0, eq_n (by omega) (by omega)] at z
          omega
        · rw [n_0, eq_n (by omega) (by omega)] at y
          omega
        · rw [n_0, eq_n (by omega) (by omega)] at y z
          have := next ⟨⟨fun x => by omega, fun x => by omega⟩, fun x => by omega⟩
          rw [fsV_0 (by unfold ld; exact decide_eq_false (by omega))] at this
          exact this
  have := loop 4 0 (by omega) (fun p' hp' => absurd hp' (by omega))
  rw [n_0, m1_iI]
  exact this
end ALIKE
