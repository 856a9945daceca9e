section KINDS
variable {G : GX} {h : mH} {Q : mO → mH → Prop}
def kkV (h : mH) (a1 p : Nat) : Nat := (gI h a1 p).toInt.toNat
def szV (h : mH) (a4 f p : Nat) : Nat := (gI h a4 (f + (8 + p))).toInt.toNat
def saV (h : mH) (a4 f p : Nat) : Nat := (gI h a4 (f + (4 + p))).toInt.toNat
def ALp (h : mH) (a1 a2 a4 i k : Nat) : Prop := ALk (kkV h a1) (szV h a4 (12 * i)) (szV h a4 (12 * k)) (saV h a4 (12 * i)) (saV h a4 (12 * k)) (perV h a2 a4 (12 * i)) (perV h a2 a4 (12 * k))
noncomputable def alB (P : Prop) : Bool := @decide P (Classical.propDecidable P)
theorem alB_t {P : Prop} : alB P = true ↔ P := by unfold alB; exact @decide_eq_true_iff P (Classical.propDecidable P)
theorem alB_1 {P : Prop} (hp : P) : alB P = true := alB_t.mpr hp
theorem alB_0 {P : Prop} (hp : ¬ P) : alB P = false := by
  cases e : alB P with
  | false => rfl
  | true => exact absurd (alB_t.mp e) hp
noncomputable def alV (h : mH) (a1 a2 a4 i k : Nat) : Int := if 5040 < rdV h a2 a4 (12 * k) 4 then -2 else if alB (ALp h a1 a2 a4 i k) then 1 else 0
noncomputable def alT (h : mH) (a1 a2 a4 i k : Nat) : Bool := decide (rdV h a2 a4 (12 * k) 4 ≤ 5040) && alB (ALp h a1 a2 a4 i k)
theorem alV_b (h : mH) (a1 a2 a4 i k : Nat) : -2 ≤ alV h a1 a2 a4 i k ∧ alV h a1 a2 a4 i k ≤ 1 := by
  unfold alV
  repeat' split
  all_goals omega
theorem alV_1 {h : mH} {a1 a2 a4 i k : Nat} : alV h a1 a2 a4 i k = 1 ↔ alT h a1 a2 a4 i k = true := by
  unfold alV alT
  by_cases c : 5040 < rdV h a2 a4 (12 * k) 4
  · rw [if_pos c, decide_eq_false (by omega)]
    exact ⟨fun z => absurd z (by decide), fun z => (by cases z)⟩
  · rw [if_neg c, decide_eq_true (by omega), Bool.true_and]
    cases alB (ALp h a1 a2 a4 i k)
    · exact ⟨fun z => absurd z (by decide), fun z => (by cases z)⟩
    · exact ⟨fun _ => rfl, fun _ => rfl⟩
theorem alT_tr {h : mH} {a1 a2 a4 : Nat} (i j k : Nat) (h1 : alT h a1 a2 a4 i j = true) (h2 : alT h a1 a2 a4 j k = true) : alT h a1 a2 a4 i k = true := by
  unfold alT at h1 h2 ⊢
  rw [Bool.and_eq_true] at h1 h2 ⊢
  refine ⟨h2.1, alB_1 ?_⟩
  have x1 := alB_t.mp h1.2
  have x2 := alB_t.mp h2.2
  unfold ALp at x1 x2 ⊢
  exact x1.tr x2
theorem alV_cg {S : Nat → Bool} {h h' : mH} (hS : Sm S h h') {a1 a2 a4 : Nat} (e1 : S a1 = false) (e2 : S a2 = false) (e4 : S a4 = false) (i k : Nat) : alV h' a1 a2 a4 i k = alV h a1 a2 a4 i k ∧ alT h' a1 a2 a4 i k = alT h a1 a2 a4 i k := by
  have x1 : kkV h' a1 = kkV h a1 := funext fun p => by unfold kkV; rw [hS.gI e1]
  have x2 : ∀ f, szV h' a4 f = szV h a4 f := fun f => funext fun p => by unfold szV; rw [hS.gI e4]
  have x3 : ∀ f, saV h' a4 f = saV h a4 f := fun f => funext fun p => by unfold saV; rw [hS.gI e4]
  have x4 : ∀ f, perV h' a2 a4 f = perV h a2 a4 f := fun f => funext fun p => by unfold perV; rw [hS.gI e2, hS.gI e4]
  unfold alV alT ALp
  rw [x1, x2, x2, x3, x3, x4, x4, rdV_cg hS e2 e4]
  exact ⟨rfl, rfl⟩
theorem rdV_dv {h : mH} {a2 a4 f : Nat} : ∀ n q, q < n → (gI h a4 (f + (8 + q))).toInt ≠ 0 → perV h a2 a4 f q ∣ rdV h a2 a4 f n
  | n + 1, q, hq, hz => by
    unfold rdV
    by_cases e : q = n
    · subst e
      rw [if_neg hz]
      exact Nat.dvd_lcm_right _ _
    · have := rdV_dv (h := h) (a2 := a2) (a4 := a4) (f := f) n q (by omega) hz
      split
      · exact this
      · exact Nat.dvd_trans this (Nat.dvd_lcm_left _ _)
theorem FrP.fd {h h' : mH} {r i : Nat} (hp : FrP h h' r i) (hr : PrR h 35 (12 * i)) : FD h' r (kkV h 4) (szV h 35 (12 * i)) (saV h 35 (12 * i)) (perV h 5 35 (12 * i)) := by
  intro p h4
  obtain ⟨e1, e2, e3, _⟩ := hp.1 p h4
  obtain ⟨⟨q1, q2⟩, q3, q4, q5, ⟨q6, q7⟩, ⟨q8, q9⟩⟩ := hr p h4
  have pb := perV_b (hr p h4)
  refine ⟨?_, ?_, ?_, ?_, ?_, ?_, ?_, pb.1, pb.2⟩
  · rw [e1]; exact i32_nat q1
  · rw [hp.2.1 (8 + p) (by omega)]; exact i32_nat q8
  · rw [hp.2.1 (4 + p) (by omega)]; exact i32_nat q6
  · rw [e2, hp.2.1 p (by omega)]; exact perV_i (hr p h4)
  · unfold kkV; omega
  · unfold szV; omega
  · unfold saV; omega
theorem FrP.from {S : Nat → Bool} {h h1 h2 : mH} {r i : Nat} (hS : Sm S h h1) (hs : S 3 = false ∧ S 4 = false ∧ S 5 = false ∧ S 6 = false ∧ S 8 = false ∧ S 9 = false ∧ S 35 = false) (hp : FrP h1 h2 r i) : FrP h h2 r i := by
  obtain ⟨s3, s4, s5, s6, s8, s9, s35⟩ := hs
  refine ⟨fun k hk => ?_, fun k hk => ?_, fun k hk => ?_, ?_, ?_⟩
  · have := hp.1 k hk
    rw [hS.gI s4, hS.gI s5, hS.gI s6, hS.gI s8] at this
    exact this
  · have := hp.2.1 k hk
    rw [hS.gI s35] at this
    exact this
  · have := hp.2.2.1 k hk
    rw [hS.gI s9] at this
    exact this
  · have := hp.2.2.2.1
    rw [hS.gI s3] at this
    exact this
  · have := hp.2.2.2.2
    rw [hS.gI s3] at this
    exact this
def cmS (o : Nat) : Bool := mr 13 o || (mr 23 o || jnS o)
theorem mX10_compare {i k : Nat} (hi : Iv h) (hi8 : i < 8) (hk8 : k < 8) (ri : PrR h 35 (12 * i)) (rk : PrR h 35 (12 * k)) (kk : ∀ g, Sm cmS h g → Q (.inl (some (.int (iI (alV h 4 5 35 i k))))) g) : WM G jX10_compare [.ref 0, .int (iI i), .int (iI k)] h Q := by
  refine eX10_compare hi (mX10_copyWith (.inl rfl) hi hi8 (fun h1 hS1 hP1 => ?_))
  have i1 := hS1.iv hi
  refine bX10_compare_9 i1 (mX10_copyWith (.inr rfl) i1 hk8 (fun h2 hS2 hP2' => ?_))
  have i2 := hS2.iv i1
  have hP2 : FrP h h2 23 k := hP2'.from hS1 ⟨by decide, by decide, by decide, by decide, by decide, by decide, by decide⟩
  have w1 : Sm cmS h h1 := hS1.wk (fun o ho => by unfold cmS at ho; simp at ho; exact ho.1)
  have w2 : Sm cmS h h2 := w1.tr (hS2.wk (fun o ho => by unfold cmS at ho; simp at ho; exact ho.2.1))
  refine bX10_compare_18 i2 (mX2_ticksRound i2 rfl (hP2.fr rk) ?_)
  rw [hP2.rd 4 (by omega)]
  obtain ⟨rb1, rb2⟩ := rdV_b4 (f := 12 * k) (a4 := 35) (a1 := 4) (a2 := 5) (a3 := 6) rk 4 (by omega)
  have fd1 : FD h2 13 (kkV h 4) (szV h 35 (12 * i)) (saV h 35 (12 * i)) (perV h 5 35 (12 * i)) := FD_cg hS2 (by intro d hd; unfold mr; simp; omega) (hP1.fd ri)
  have fd2 := hP2.fd rk
  have kk' := fun g S => kk g (w2.tr (S : Sm cmS h2 g))
  have w3 : ∀ {g : mH}, Sm jnS h2 g → Sm cmS h2 g := fun hs => hs.wk (fun o ho => by unfold cmS at ho; simp at ho; exact ho.2.2)
  unfold alV at kk'
  refine bX10_compare_25 i2 ⟨fun c => ?_, fun c => ?_⟩
  · rw [n_5040, le_n (by omega) (by omega)] at c
    rw [if_neg (by omega)] at kk'
    refine mX4_joins i2 rfl rfl fd1 fd2 rb1 (fun q hq hl => rdV_dv 4 q hq (fun e => ?_)) (fun g hS ha => ?_) (fun g hS ha => ?_)
    · unfold szV at hl
      omega
    · have := kk' g (w3 hS)
      rw [if_pos (alB_1 (show ALp h 4 5 35 i k from ha))] at this
      exact bX10_compare_49 (hS.iv i2) ⟨fun z => absurd z (by decide), fun _ => this⟩
    · have := kk' g (w3 hS)
      rw [alB_0 (show ¬ ALp h 4 5 35 i k from ha)] at this
      exact bX10_compare_49 (hS.iv i2) ⟨fun _ => this, fun z => absurd rfl z⟩
  · rw [n_5040, le_n (by omega) (by omega)] at c
    rw [if_pos (by omega)] at kk'
    exact kk' h2 Sm.rf
theorem mX10_alike {p q : Int32} (hi : Iv h) (h8 : (gI h 33 1).toInt ≤ 8) (hr : ∀ i : Nat, (i : Int) < (gI h 33 1).toInt → PrR h 35 (12 * i)) (kN : ¬ (pk h p ∧ pk h q) → Th eN h Q)
    (k : ∀ g, (pk h p ∧ pk h q) → Sm cmS h g → Q (.inl (some (.int (iI (alV h 4 5 35 p.toInt.toNat q.toInt.toNat))))) g) : WM G jX10_alike [.ref 0, .int p, .int q] h Q := by
  refine eX10_alike hi (mX10_needPortrait hi (fun p1 p2 => ?_) (fun c => kN (fun z => c z.1)))
  refine bX10_alike_5 hi (mX10_needPortrait hi (fun q1 q2 => ?_) (fun c => kN (fun z => c z.2)))
  have k' := fun g => k g ⟨⟨p1, p2⟩, q1, q2⟩
  refine bX10_alike_10 hi ?_
  rw [i32_nat p1, i32_nat q1]
  exact mX10_compare hi (by omega) (by omega) (hr _ (by omega)) (hr _ (by omega)) (fun g hS => bX10_alike_16 (hS.iv hi) (k' g hS))
/-- the least of a kind -/
def lsN (al : Nat → Nat → Bool) (p : Nat) : Nat := if fsV (fun j => al j p) p = -1 then p else (fsV (fun j => al j p) p).toNat
theorem lsN_le (al : Nat → Nat → Bool) (p : Nat) : lsN al p ≤ p := by
  have := fsV_b (fun j => al j p) p
  unfold lsN
  split <;> omega
theorem lsN_head {al : Nat → Nat → Bool} (tr : ∀ i j k, al i j = true → al j k = true → al i k = true) {j k : Nat} (hj : al j k = true) (hm : ∀ i, i < j → al i k = false) : lsN al j = j := by
  unfold lsN
  by_cases e : fsV (fun i => al i j) j = -1
  · rw [if_pos e]
  · exfalso
    have h1 := (fsV_at j e).1
    have h2 := fsV_b (fun i => al i j) j
    have h3 := tr _ _ _ h1 hj
    rw [hm _ (by omega)] at h3
    cases h3
theorem mX10_leastOfKind {p : Nat} (hi : Iv h) (hp8 : p < 8) (hr : ∀ i, i ≤ p → PrR h 35 (12 * i)) (k : ∀ g, Sm cmS h g → Q (.inl (some (.int (iI (lsN (alT h 4 5 35) p : Nat))))) g) : WM G jX10_leastOfKind [.ref 0, .int (iI p)] h Q := by
  refine eX10_leastOfKind hi ?_
  rw [n_0]
  have prc : ∀ {g : mH}, Sm cmS h g → ∀ i, i ≤ p → PrR g 35 (12 * i) := fun hS i hi q h4 => PnR_cg hS (by decide) (by decide) (by decide) (by decide) (hr i hi q h4)
  have loop : ∀ (d j : Nat) (g : mH), j + d = p → Sm cmS h g → fsV (fun j => alT h 4 5 35 j p) j = -1 → Vw G jX10_leastOfKind 2 [some (.ref 0), some (.int (iI p)), some (.int (iI j))] [] g Q := by
    intro d
    induction d with
    | zero =>
      intro j g hj hS hz
      have : j = p := by omega
      subst this
      have := k g hS
      unfold lsN at this
      rw [if_pos hz] at this
      exact bX10_leastOfKind_2 (hS.iv hi) ⟨fun _ => this, fun z => absurd (Int32.le_refl _) z⟩
    | succ d ih =>
      intro j g hj hS hz
      have e1 : iI (j : Int) + 1 = iI ((j + 1 : Nat) : Int) := by rw [n_1, ad_n]
      refine bX10_leastOfKind_2 (hS.iv hi) ⟨fun z => ?_, fun _ => mX10_compare (hS.iv hi) (by omega) hp8 (prc hS j (by omega)) (prc hS p (by omega)) (fun g2 hS2 => ?_)⟩
      · rw [le_n (by omega) (by omega)] at z
        omega
      · have S2 := hS.tr hS2
        obtain ⟨v1, v2⟩ := alV_cg hS (a1 := 4) (a2 := 5) (a4 := 35) (by decide) (by decide) (by decide) j p
        rw [v1]
        have vb := alV_b h 4 5 35 j p
        refine bX10_leastOfKind_13 (S2.iv hi) ⟨fun z => ?_, fun z => ?_⟩
        · have hf : alT h 4 5 35 j p = false := by
            cases e : alT h 4 5 35 j p with
            | false => rfl
            | true =>
              rw [alV_1.mpr e] at z
              exact absurd rfl z
          rw [e1]
          refine ih (j + 1) g2 (by omega) S2 ?_
          rw [fsV_0 (f := fun j => alT h 4 5 35 j p) hf]
          exact hz
        · rw [show (1 : Int32) = iI 1 from by decide, iI_eq ⟨by omega, by omega⟩ ⟨by decide, by decide⟩, alV_1] at z
          have hs := fsV_1 (f := fun j => alT h 4 5 35 j p) hz z
          have hst := fsV_st (f := fun j => alT h 4 5 35 j p) (n := j + 1) (by rw [hs]; omega) (p - (j + 1))
          rw [show j + 1 + (p - (j + 1)) = p from by omega, hs] at hst
          have := k g2 S2
          unfold lsN at this
          rw [hst, if_neg (by omega), Int.toNat_natCast] at this
          exact this
  exact loop p 0 h (by omega) Sm.rf rfl
def kdV (al : Nat → Nat → Bool) (n : Nat) (v : Int32) : Int := if v = -1 then (cnt (fun i => lsN al i == i) n : Nat) else (lsN al v.toInt.toNat : Nat)
theorem mX10_kinds {n : Nat} {v : Int32} (hi : Iv h) (hn : gI h 33 1 = iI n) (h8 : n ≤ 8) (hr : ∀ i, i < n → PrR h 35 (12 * i)) (kN : v ≠ -1 → ¬ pk h v → Th eN h Q)
    (k : ∀ g, (v = -1 ∨ pk h v) → Sm cmS h g → Q (.inl (some (.int (iI (kdV (alT h 4 5 35) n v))))) g) : WM G jX10_kinds [.ref 0, .int v] h Q := by
  unfold kdV at k
  have hnn : (gI h 33 1).toInt = n := by rw [hn, iI_toInt ⟨by omega, by omega⟩]
  refine eX10_kinds hi ⟨fun c => ?_, fun c => mX10_needPortrait hi (fun p1 p2 => ?_) (kN c)⟩
  · simp only [if_pos c] at k
    rw [n_0]
    have loop : ∀ (d i : Nat) (g : mH), i + d = n → Sm cmS h g → Vw G jX10_kinds 20 [some (.ref 0), none, some (.int (iI (cnt (fun i => lsN (alT h 4 5 35) i == i) i : Nat))), some (.int (iI i))] [] g Q := by
      intro d
      induction d with
      | zero =>
        intro i g hin hS
        have : i = n := by omega
        subst this
        refine bX10_kinds_20 (hS.iv hi) ⟨fun _ => k g (.inl c) hS, fun z => absurd ?_ z⟩
        rw [hS.gI (o := 33) (by decide), hn]
        exact Int32.le_refl _
      | succ d ih =>
        intro i g hin hS
        have e1 : iI (i : Int) + 1 = iI ((i + 1 : Nat) : Int) := by rw [n_1, ad_n]
        refine bX10_kinds_20 (hS.iv hi) ⟨fun z => ?_, fun _ => mX10_leastOfKind (hS.iv hi) (by omega) (fun j hj q h4 => PnR_cg hS (by decide) (by decide) (by decide) (by decide) (hr j (by omega) q h4)) (fun g2 hS2 => ?_)⟩
        · rw [hS.gI (o := 33) (by decide), hn, le_n (by omega) (by omega)] at z
          omega
        · have S2 := hS.tr hS2
          have hal : alT g 4 5 35 = alT h 4 5 35 := funext fun a => funext fun b => (alV_cg hS (a1 := 4) (a2 := 5) (a4 := 35) (by decide) (by decide) (by decide) a b).2
          rw [hal]
          have lb := lsN_le (alT h 4 5 35) i
          have cb := cnt_le (fun i => lsN (alT h 4 5 35) i == i) i
          have nx := ih (i + 1) g2 (by omega) S2
          have hcs : cnt (fun i => lsN (alT h 4 5 35) i == i) (i + 1) = cnt (fun i => lsN (alT h 4 5 35) i == i) i + (if lsN (alT h 4 5 35) i == i then 1 else 0) := rfl
          refine bX10_kinds_36 (S2.iv hi) ⟨fun z => ?_, fun z => ?_⟩
          · rw [eq_n (by omega) (by omega)] at z
            rw [hcs, if_neg (by simpa using z), Nat.add_zero] at nx
            refine bX10_kinds_43 (S2.iv hi) ?_
            rw [e1]
            exact nx
          · rw [eq_n (by omega) (by omega)] at z
            rw [hcs, if_pos (by simpa using z)] at nx
            refine bX10_kinds_43 (S2.iv hi) ?_
            rw [e1, n_1, ad_n]
            exact nx
    exact loop n 0 h (by omega) Sm.rf
  · simp only [if_neg c] at k
    refine bX10_kinds_10 hi ?_
    have k' := fun g => k g (.inr ⟨p1, p2⟩)
    rw [hnn] at p2
    rw [i32_nat p1]
    exact mX10_leastOfKind hi (by omega) (fun j hj => hr j (by omega)) (fun g hS => bX10_kinds_15 (hS.iv hi) (k' g hS))
end KINDS
