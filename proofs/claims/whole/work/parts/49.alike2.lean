section ALIKE2
variable {G : GX} {h : mH} {Q : mO → mH → Prop}
/-- how far two's start lies behind one's -/
def gpI (st1 st2 pe1 bc : Nat → Nat) (mi p : Nat) : Int := (st2 (bc p) : Int) - st1 p - (if mirB mi (bc p / 2) then (pe1 p / 2 : Nat) else (0 : Nat))
theorem mir_v : ∀ mi, mi < 4 → ∀ q, q < 4 → ((iI ((mi : Nat) : Int) >>> ((iI ((q : Nat) : Int) / (2 : Int32)) &&& 31)) &&& (1 : Int32) = 1 ↔ mirB mi (q / 2) = true) := by decide +kernel
theorem xor_sg : ∀ (g : Int32) (v : Nat), v ≤ 60 → (0 ≤ (g ^^^ iI (v : Int)) ↔ 0 ≤ g.toInt) := by
  intro g v hv
  have h1 : 0 ≤ (g ^^^ iI (v : Int)) ↔ 0 ≤ (g ^^^ iI (v : Int)).toInt := by rw [i32_0, i32_ge ⟨by decide, by decide⟩]
  rw [h1]
  have e1 : (g ^^^ iI (v : Int)).toInt = (g.toBitVec ^^^ (iI (v : Int)).toBitVec).toInt := rfl
  have e2 : g.toInt = g.toBitVec.toInt := rfl
  have m1 : (g.toBitVec ^^^ (iI (v : Int)).toBitVec).msb = g.toBitVec.msb := by
    rw [BitVec.msb_xor]
    have : (iI (v : Int)).toBitVec.msb = false := by
      rw [BitVec.msb_eq_toInt]
      have : (iI (v : Int)).toBitVec.toInt = (v : Int) := iI_toInt (x := (v : Int)) ⟨by omega, by omega⟩
      rw [this]
      simp
    rw [this, Bool.xor_false]
  rw [e1, e2]
  rw [BitVec.msb_eq_toInt, BitVec.msb_eq_toInt] at m1
  have := decide_eq_decide.mp m1
  omega
theorem mJ9_floorMod {x : Int} {v : Nat} (hi : Iv h) (b1 : -1000 ≤ x) (b2 : x ≤ 1000) (h1 : 1 ≤ v) (h2 : v ≤ 60) (k : Q (.inl (some (.int (iI (x % (v : Int)))))) h) : WM G jJ9_floorMod_7cf53 [.int (iI x), .int (iI v)] h Q := by
  refine eJ9_floorMod_7cf53 hi ⟨?_, ?_⟩
  · rw [n_0, eq_n (by omega) (by omega)]; omega
  · rw [iI_rem ⟨by omega, by omega⟩ ⟨by omega, by omega⟩, xor_sg _ _ h2, iI_toInt ⟨by omega, by omega⟩]
    have e1 := Int.emod_nonneg x (b := (v : Int)) (by omega)
    have e2 := Int.emod_lt_of_pos x (b := (v : Int)) (by omega)
    refine ⟨fun c => ?_, fun c => ⟨fun c1 => ?_, fun c1 => ?_⟩⟩
    · rw [Int.tmod_eq_emod_of_nonneg c]
      exact k
    · have t1 := Int.tmod_eq_emod (a := x) (b := (v : Int))
      rw [i32_0] at c1
      have tb : -(v : Int) < x.tmod v ∧ x.tmod v < v := by
        have := Int.tmod_lt_of_pos x (b := (v : Int)) (by omega)
        have := Int.lt_tmod_of_pos x (b := (v : Int)) (by omega)
        omega
      rw [iI_eq ⟨by omega, by omega⟩ ⟨by decide, by decide⟩] at c1
      rw [c1]
      have : x % (v : Int) = 0 := by
        have hd : (v : Int) ∣ x := Int.dvd_of_tmod_eq_zero c1
        exact Int.emod_eq_zero_of_dvd hd
      rw [this] at k
      exact k
    · have tb : -(v : Int) < x.tmod v ∧ x.tmod v < v := by
        have := Int.tmod_lt_of_pos x (b := (v : Int)) (by omega)
        have := Int.lt_tmod_of_pos x (b := (v : Int)) (by omega)
        omega
      rw [i32_0, iI_eq ⟨by omega, by omega⟩ ⟨by decide, by decide⟩] at c1
      rw [iI_add]
      have hx : x.tmod v + v = x % (v : Int) := by
        have d1 := Int.mul_tdiv_add_tmod x v
        have : (x.tmod v + v) % (v : Int) = x % (v : Int) := by
          rw [Int.add_emod_right]
          conv => rhs; rw [← d1]
          rw [Int.mul_add_emod_self_left]
        rw [← this]
        have tn : x.tmod v ≤ 0 := by
          have := Int.tmod_nonneg (a := -x) v (by omega)
          rw [Int.neg_tmod] at this
          omega
        exact (Int.emod_eq_of_lt (by omega) (by omega)).symm
      rw [hx]
      exact k
def evn (s1 pe1 bc : Nat → Nat) (mi p : Nat) : Prop := 0 < s1 p → mirB mi (bc p / 2) = true → pe1 p % 2 = 0
theorem mX4_findTimes {r1 r2 mi : Nat} {kk s1 s2 st1 st2 pe1 pe2 bc : Nat → Nat} (hi : Iv h) (k1 : kd r1 = (2, 11)) (k2 : kd r2 = (2, 11)) (hmi : mi < 4) (f1 : FD h r1 kk s1 st1 pe1) (f2 : FD h r2 kk s2 st2 pe2) (hbc : ∀ p, p < 4 → gI h 69 p = iI (bc p : Nat) ∧ bc p < 4)
    (ky : ∀ g, Sm (fun o => o == 70) h g → (∀ p, p < 4 → evn s1 pe1 bc mi p) → (∀ p, p < 4 → 0 < s1 p → gI g 70 p = iI (gpI st1 st2 pe1 bc mi p % (pe1 p : Int))) → Q (.inl (some (.int 1))) g) (kn : ∀ g, Sm (fun o => o == 70) h g → ¬ (∀ p, p < 4 → evn s1 pe1 bc mi p) → Q (.inl (some (.int 0))) g) : WM G jX4_findTimes [.ref 68, .ref r1, .ref r2, .int (iI mi)] h Q := by
  have o1 : ∀ d, d ≤ 6 → (fun o => o == 70) (r1 + d) = false := fun d hd => by rcases frc k1 with rfl | rfl | rfl | rfl <;> simp <;> omega
  have o2 : ∀ d, d ≤ 6 → (fun o => o == 70) (r2 + d) = false := fun d hd => by rcases frc k2 with rfl | rfl | rfl | rfl <;> simp <;> omega
  refine eX4_findTimes hi k1 k2 ?_
  rw [n_0]
  have loop : ∀ (d p : Nat) (g : mH), p + d = 4 → Sm (fun o => o == 70) h g → (∀ p', p' < p → evn s1 pe1 bc mi p') → (∀ p', p' < p → 0 < s1 p' → gI g 70 p' = iI (gpI st1 st2 pe1 bc mi p' % (pe1 p' : Int))) → Vw G jX4_findTimes 3 [some (.ref 68), some (.ref r1), some (.ref r2), some (.int (iI mi)), some (.int (iI p)), none, none, none, none] [] g Q := by
    intro d
    induction d with
    | zero =>
      intro p g hp hS he ht
      have : p = 4 := by omega
      subst this
      exact bX4_findTimes_3 (hS.iv hi) k1 k2 ⟨fun _ => ky g hS he ht, fun z => absurd (by decide) z⟩
    | succ d ih =>
      intro p g hp hS he ht
      have hp4 : p < 4 := by omega
      have gi := hS.iv hi
      have e1 : iI (p : Int) + 1 = iI ((p + 1 : Nat) : Int) := by rw [n_1, ad_n]
      have e8 : (8 : Int32) + iI (p : Int) = iI ((8 + p : Nat) : Int) := by rw [n_8, ad_n]
      have e4 : ∀ x : Nat, (4 : Int32) + iI (x : Int) = iI ((4 + x : Nat) : Int) := fun x => by rw [n_4, ad_n]
      obtain ⟨b1, b2⟩ := hbc p hp4
      obtain ⟨a1, a2, a3, a4, a5, a6, a7, a8, a9⟩ := FD_cg hS o1 f1 p hp4
      obtain ⟨c1, c2, c3, c4, c5, c6, c7, c8, c9⟩ := FD_cg hS o2 f2 (bc p) b2
      have next : ∀ g', Sm (fun o => o == 70) h g' → evn s1 pe1 bc mi p → (∀ p', p' < p + 1 → 0 < s1 p' → gI g' 70 p' = iI (gpI st1 st2 pe1 bc mi p' % (pe1 p' : Int))) → Vw G jX4_findTimes 130 [some (.ref 68), some (.ref r1), some (.ref r2), some (.int (iI mi)), some (.int (iI p)), none, none, none, none] [] g' Q := fun g' hS' hev ht' => by
        refine bX4_findTimes_130 (hS'.iv hi) k1 k2 ?_
        rw [e1]
        refine ih (p + 1) g' (by omega) hS' (fun p' hp' => ?_) ht'
        by_cases e : p' = p
        · subst e; exact hev
        · exact he p' (by omega)
      have g69 : gI g 69 p = iI (bc p : Nat) := by rw [hS.gI (o := 69) rfl]; exact b1
      refine bX4_findTimes_3 gi k1 k2 ⟨fun z => ?_, fun _ => mX2_period gi k1 hp4 ?_⟩
      · rw [n_4, le_n (by omega) (by omega)] at z
        omega
      · rw [a4]
        refine bX4_findTimes_15 gi k1 k2 ?_
        rw [e8, ix_n (by omega), ix_n (by omega), a2, g69]
        refine ⟨in_n (by omega) (by omega), fun z => ?_, fun z => ⟨fun _ => ⟨in_n (by omega) (by omega), fun y => ?_, fun y => ⟨fun x => ?_, fun x => kn g hS (fun w => x ?_)⟩⟩, fun y => ?_⟩⟩
        · rw [n_0, eq_n (by omega) (by omega)] at z
          refine next g hS (fun l => by omega) (fun p' hp' l => ?_)
          by_cases e : p' = p
          · subst e; omega
          · exact ht p' (by omega) l
        all_goals (rw [n_0, eq_n (by omega) (by omega)] at z)
        · rw [mir_v mi hmi _ b2] at y
          refine bX4_findTimes_81 gi k1 k2 ?_
          rw [e4, e4, ix_n (by omega), ix_n (by omega), c3, a3]
          refine ⟨in_n (by omega) (by omega), in_n (by omega) (by omega), fun _ => ?_, fun w => absurd rfl w⟩
          rw [i32_0, iI_sub, iI_sub]
          refine mJ9_floorMod gi (by omega) (by omega) (by omega) (by omega) ?_
          refine bX4_findTimes_129 gi k1 k2 ?_
          rw [ix_n (by omega)]
          refine ⟨in_n (by omega) (by omega), next _ (hS.pI rfl _ _) (fun _ m => absurd m y) (fun p' hp' l => ?_)⟩
          rw [gI_pI]
          by_cases e : p' = p
          · subst e
            rw [if_pos ⟨rfl, rfl⟩]
            unfold gpI
            rw [if_neg y]
            rfl
          · rw [if_neg (by omega)]
            exact ht p' (by omega) l
        · rw [mir_v mi hmi _ b2] at y
          have hx : pe1 p % 2 = 0 := by
            rw [n_2, iI_rem ⟨by omega, by omega⟩ ⟨by omega, by omega⟩, n_0, iI_eq ⟨by rw [Int.tmod_eq_emod_of_nonneg (by omega)]; omega, by rw [Int.tmod_eq_emod_of_nonneg (by omega)]; omega⟩ ⟨by omega, by omega⟩, Int.tmod_eq_emod_of_nonneg (by omega)] at x
            omega
          refine bX4_findTimes_81 gi k1 k2 ?_
          rw [e4, e4, ix_n (by omega), ix_n (by omega), c3, a3]
          refine ⟨in_n (by omega) (by omega), in_n (by omega) (by omega), fun w => absurd w (by decide), fun _ => ?_⟩
          have hh : iI (pe1 p : Nat) / (2 : Int32) = iI ((pe1 p / 2 : Nat) : Int) := by
            rw [n_2, iI_div ⟨by omega, by omega⟩ ⟨by omega, by omega⟩, Int.tdiv_eq_ediv_of_nonneg (by omega)]
            rfl
          rw [hh, iI_sub, iI_sub]
          refine mJ9_floorMod gi (by omega) (by omega) (by omega) (by omega) ?_
          refine bX4_findTimes_129 gi k1 k2 ?_
          rw [ix_n (by omega)]
          refine ⟨in_n (by omega) (by omega), next _ (hS.pI rfl _ _) (fun _ _ => hx) (fun p' hp' l => ?_)⟩
          rw [gI_pI]
          by_cases e : p' = p
          · subst e
            rw [if_pos ⟨rfl, rfl⟩]
            unfold gpI
            rw [if_pos y]
          · rw [if_neg (by omega)]
            exact ht p' (by omega) l
        · rw [mir_v mi hmi _ b2] at y
          have hx := w p hp4 (by omega) y
          rw [n_2, iI_rem ⟨by omega, by omega⟩ ⟨by omega, by omega⟩, n_0, iI_eq ⟨by rw [Int.tmod_eq_emod_of_nonneg (by omega)]; omega, by rw [Int.tmod_eq_emod_of_nonneg (by omega)]; omega⟩ ⟨by omega, by omega⟩, Int.tmod_eq_emod_of_nonneg (by omega)]
          omega
        · rw [n_1, le_n (by omega) (by omega)] at y
          omega
  exact loop 4 0 h (by omega) Sm.rf (fun p' hp' => absurd hp' (by omega)) (fun p' hp' => absurd hp' (by omega))
def prs (s1 st1 st2 pe1 bc : Nat → Nat) (mi p q : Nat) : Prop := 0 < s1 p → 0 < s1 q → ((Nat.gcd (pe1 p) (pe1 q) : Nat) : Int) ∣ gpI st1 st2 pe1 bc mi p - gpI st1 st2 pe1 bc mi q
theorem prs_tm {s1 st1 st2 pe1 bc : Nat → Nat} {mi p q : Nat} : prs s1 st1 st2 pe1 bc mi p q ↔ (0 < s1 p → 0 < s1 q → ((Nat.gcd (pe1 p) (pe1 q) : Nat) : Int) ∣ gpI st1 st2 pe1 bc mi p % (pe1 p : Int) - gpI st1 st2 pe1 bc mi q % (pe1 q : Int)) := by
  unfold prs
  have key : ((Nat.gcd (pe1 p) (pe1 q) : Nat) : Int) ∣ (gpI st1 st2 pe1 bc mi p - gpI st1 st2 pe1 bc mi q) - (gpI st1 st2 pe1 bc mi p % (pe1 p : Int) - gpI st1 st2 pe1 bc mi q % (pe1 q : Int)) := by
    have d1 : ((Nat.gcd (pe1 p) (pe1 q) : Nat) : Int) ∣ gpI st1 st2 pe1 bc mi p - gpI st1 st2 pe1 bc mi p % (pe1 p : Int) := Int.dvd_trans (Int.natCast_dvd_natCast.mpr (Nat.gcd_dvd_left _ _)) ⟨gpI st1 st2 pe1 bc mi p / (pe1 p : Int), by have := Int.mul_ediv_add_emod (gpI st1 st2 pe1 bc mi p) (pe1 p); omega⟩
    have d2 : ((Nat.gcd (pe1 p) (pe1 q) : Nat) : Int) ∣ gpI st1 st2 pe1 bc mi q - gpI st1 st2 pe1 bc mi q % (pe1 q : Int) := Int.dvd_trans (Int.natCast_dvd_natCast.mpr (Nat.gcd_dvd_right _ _)) ⟨gpI st1 st2 pe1 bc mi q / (pe1 q : Int), by have := Int.mul_ediv_add_emod (gpI st1 st2 pe1 bc mi q) (pe1 q); omega⟩
    exact dve (Int.dvd_sub d1 d2) (by omega)
  constructor
  · intro z l1 l2
    exact dve (Int.dvd_sub (z l1 l2) key) (by omega)
  · intro z l1 l2
    exact dve (Int.dvd_add (z l1 l2) key) (by omega)
theorem mX4_oneTimeForAll {r1 mi : Nat} {kk s1 st1 st2 pe1 bc : Nat → Nat} (hi : Iv h) (k1 : kd r1 = (2, 11)) (f1 : FD h r1 kk s1 st1 pe1) (ht : ∀ p, p < 4 → 0 < s1 p → gI h 70 p = iI (gpI st1 st2 pe1 bc mi p % (pe1 p : Int)))
    (ky : (∀ p q, q < p → p < 4 → prs s1 st1 st2 pe1 bc mi p q) → Q (.inl (some (.int 1))) h) (kn : ¬ (∀ p q, q < p → p < 4 → prs s1 st1 st2 pe1 bc mi p q) → Q (.inl (some (.int 0))) h) : WM G jX4_oneTimeForAll [.ref 68, .ref r1] h Q := by
  refine eX4_oneTimeForAll hi k1 ?_
  rw [n_1]
  have L1 : ∀ p, p < 4 → ((∀ q, q < p → prs s1 st1 st2 pe1 bc mi p q) → Vw G jX4_oneTimeForAll 2 [some (.ref 68), some (.ref r1), some (.int (iI ((p + 1 : Nat) : Int))), none, none, none] [] h Q) → ∀ (d q : Nat), q + d = p → (∀ q', q' < q → prs s1 st1 st2 pe1 bc mi p q') → Vw G jX4_oneTimeForAll 9 [some (.ref 68), some (.ref r1), some (.int (iI p)), some (.int (iI q)), none, none] [] h Q := by
    intro p hp4 nx d
    have e1 : iI (p : Int) + 1 = iI ((p + 1 : Nat) : Int) := by rw [n_1, ad_n]
    induction d with
    | zero =>
      intro q hq hz
      have : q = p := by omega
      subst this
      refine bX4_oneTimeForAll_9 hi k1 ⟨fun _ => ?_, fun z => absurd (Int32.le_refl _) z⟩
      rw [e1]
      exact nx hz
    | succ d ih =>
      intro q hq hz
      have hq4 : q < 4 := by omega
      have e2 : iI (q : Int) + 1 = iI ((q + 1 : Nat) : Int) := by rw [n_1, ad_n]
      have e8 : ∀ x : Nat, (8 : Int32) + iI (x : Int) = iI ((8 + x : Nat) : Int) := fun x => by rw [n_8, ad_n]
      obtain ⟨a1, a2, a3, a4, a5, a6, a7, a8, a9⟩ := f1 p hp4
      obtain ⟨c1, c2, c3, c4, c5, c6, c7, c8, c9⟩ := f1 q hq4
      have next : prs s1 st1 st2 pe1 bc mi p q → Vw G jX4_oneTimeForAll 91 [some (.ref 68), some (.ref r1), some (.int (iI p)), some (.int (iI q)), none, none] [] h Q := fun z => by
        refine bX4_oneTimeForAll_91 hi k1 ?_
        rw [e2]
        refine ih (q + 1) (by omega) (fun q' hq' => ?_)
        by_cases e : q' = q
        · subst e; exact z
        · exact hz q' (by omega)
      have hg : 1 ≤ Nat.gcd (pe1 p) (pe1 q) ∧ Nat.gcd (pe1 p) (pe1 q) ≤ 49 := ⟨Nat.gcd_pos_of_pos_left _ (by omega), Nat.le_trans (Nat.gcd_le_left _ (by omega)) a9⟩
      have call : ∀ b : Bool, b = (decide (0 < s1 p) && decide (0 < s1 q)) → WM G jX2_period [.ref r1, .int (iI p)] h (Aft G jX4_oneTimeForAll 47 [some (.ref 68), some (.ref r1), some (.int (iI p)), some (.int (iI q)), some (.int (bL b)), none] [] Q) := by
        intro b hb
        refine mX2_period hi k1 hp4 ?_
        rw [a4]
        refine bX4_oneTimeForAll_50 hi k1 (mX2_period hi k1 hq4 ?_)
        rw [c4]
        refine bX4_oneTimeForAll_55 hi k1 (mX10_greatestCommon hi (by omega) (by omega) ?_)
        refine bX4_oneTimeForAll_58 hi k1 ⟨fun z => next ?_, fun z => ⟨fun y => ?_, fun y => ?_⟩⟩
        · rw [bL_0] at z
          intro l1 l2
          rw [z, decide_eq_true l1, decide_eq_true l2] at hb
          cases hb
        · rw [n_0, le_n (by omega) (by omega)] at y
          omega
        · have hbt : b = true := by cases b with
            | true => rfl
            | false => exact absurd rfl z
          rw [hbt] at hb
          have hl : 0 < s1 p ∧ 0 < s1 q := by simpa using hb.symm
          rw [ix_n (by omega), ix_n (by omega), ht p hp4 hl.1, ht q hq4 hl.2]
          have u1 := Int.emod_nonneg (gpI st1 st2 pe1 bc mi p) (b := (pe1 p : Int)) (by omega)
          have u2 := Int.emod_lt_of_pos (gpI st1 st2 pe1 bc mi p) (b := (pe1 p : Int)) (by omega)
          have u3 := Int.emod_nonneg (gpI st1 st2 pe1 bc mi q) (b := (pe1 q : Int)) (by omega)
          have u4 := Int.emod_lt_of_pos (gpI st1 st2 pe1 bc mi q) (b := (pe1 q : Int)) (by omega)
          rw [iI_sub, iI_rem ⟨by omega, by omega⟩ ⟨by omega, by omega⟩]
          have tb : -((Nat.gcd (pe1 p) (pe1 q) : Nat) : Int) < (gpI st1 st2 pe1 bc mi p % (pe1 p : Int) - gpI st1 st2 pe1 bc mi q % (pe1 q : Int)).tmod ((Nat.gcd (pe1 p) (pe1 q) : Nat) : Int) ∧ (gpI st1 st2 pe1 bc mi p % (pe1 p : Int) - gpI st1 st2 pe1 bc mi q % (pe1 q : Int)).tmod ((Nat.gcd (pe1 p) (pe1 q) : Nat) : Int) < ((Nat.gcd (pe1 p) (pe1 q) : Nat) : Int) := by
            have w1 := Int.tmod_lt_of_pos (gpI st1 st2 pe1 bc mi p % (pe1 p : Int) - gpI st1 st2 pe1 bc mi q % (pe1 q : Int)) (b := ((Nat.gcd (pe1 p) (pe1 q) : Nat) : Int)) (by omega)
            have w2 := Int.lt_tmod_of_pos (gpI st1 st2 pe1 bc mi p % (pe1 p : Int) - gpI st1 st2 pe1 bc mi q % (pe1 q : Int)) (b := ((Nat.gcd (pe1 p) (pe1 q) : Nat) : Int)) (by omega)
            exact ⟨w2, w1⟩
          refine ⟨in_n (by omega) (by omega), in_n (by omega) (by omega), ?_, fun x => next ?_, fun x => kn (fun w => x ?_)⟩
          · rw [n_0, eq_n (by omega) (by omega)]; omega
          · rw [i32_0, iI_eq ⟨by omega, by omega⟩ ⟨by decide, by decide⟩] at x
            rw [prs_tm]
            exact fun _ _ => Int.dvd_of_tmod_eq_zero x
          · have w' := w p q (by omega) hp4
            rw [prs_tm] at w'
            rw [i32_0]
            congr 1
            exact Int.tmod_eq_zero_of_dvd (w' hl.1 hl.2)
      refine bX4_oneTimeForAll_9 hi k1 ⟨fun z => ?_, fun _ => ?_⟩
      · rw [le_n (by omega) (by omega)] at z
        omega
      · rw [e8, e8, ix_n (by omega), ix_n (by omega), a2, c2]
        refine ⟨in_n (by omega) (by omega), fun z => bX4_oneTimeForAll_42 hi k1 (call false ?_), fun z => ⟨in_n (by omega) (by omega), fun y => bX4_oneTimeForAll_42 hi k1 (call false ?_), fun y => call true ?_⟩⟩
        · rw [n_0, le_n (by omega) (by omega)] at z
          rw [decide_eq_false (by omega)]; rfl
        · rw [n_0, le_n (by omega) (by omega)] at y
          rw [decide_eq_false (p := 0 < s1 q) (by omega), Bool.and_false]
        · rw [n_0, le_n (by omega) (by omega)] at z y
          rw [decide_eq_true (by omega), decide_eq_true (by omega)]; rfl
  have L2 : ∀ (d p : Nat), p + d = 4 → (∀ p' q, q < p' → p' < p → prs s1 st1 st2 pe1 bc mi p' q) → Vw G jX4_oneTimeForAll 2 [some (.ref 68), some (.ref r1), some (.int (iI p)), none, none, none] [] h Q := by
    intro d
    induction d with
    | zero =>
      intro p hp hz
      have : p = 4 := by omega
      subst this
      exact bX4_oneTimeForAll_2 hi k1 ⟨fun _ => ky hz, fun z => absurd (by decide) z⟩
    | succ d ih =>
      intro p hp hz
      refine bX4_oneTimeForAll_2 hi k1 ⟨fun z => ?_, fun _ => ?_⟩
      · rw [n_4, le_n (by omega) (by omega)] at z
        omega
      · rw [n_0]
        refine L1 p (by omega) (fun w => ih (p + 1) (by omega) (fun p' q hq hp' => ?_)) p 0 (by omega) (fun q hq => absurd hq (by omega))
        by_cases e : p' = p
        · subst e; exact w q hq
        · exact hz p' q hq (by omega)
  exact L2 3 1 (by omega) (fun p' q h1 h2 => absurd h1 (by omega))
def metB (s1 st1 st2 pe1 bc : Nat → Nat) (mi : Nat) : Prop := (∀ p, p < 4 → evn s1 pe1 bc mi p) ∧ ∀ p q, q < p → p < 4 → prs s1 st1 st2 pe1 bc mi p q
theorem metB_tm {s1 st1 st2 pe1 bc : Nat → Nat} {mi R : Nat} (hR : 0 < R) (hpe : ∀ p, p < 4 → 0 < s1 p → pe1 p ∣ R) : metB s1 st1 st2 pe1 bc mi ↔ ∃ t, TMk s1 st1 st2 pe1 bc mi t := by
  constructor
  · intro ⟨h1, h2⟩
    obtain ⟨t, _, ht⟩ := TMk_crt (st2 := st2) hR hpe (fun p hp => h1 p hp) (fun p q hq hp l1 l2 => h2 p q hq hp l1 l2)
    exact ⟨t, ht⟩
  · intro ⟨t, ht⟩
    exact ⟨fun p hp l => (ht p hp l).1, fun p q hq hp l1 l2 => TMk_each ht hp (by omega) l1 l2⟩
theorem mX4_meet {r1 r2 : Nat} {kk s1 s2 st1 st2 pe1 pe2 bc : Nat → Nat} (hi : Iv h) (k1 : kd r1 = (2, 11)) (k2 : kd r2 = (2, 11)) (f1 : FD h r1 kk s1 st1 pe1) (f2 : FD h r2 kk s2 st2 pe2) (hbc : ∀ p, p < 4 → gI h 69 p = iI (bc p : Nat) ∧ bc p < 4)
    (ky : ∀ g, Sm (fun o => o == 70) h g → (∃ mi, mi < 4 ∧ metB s1 st1 st2 pe1 bc mi) → Q (.inl (some (.int 1))) g) (kn : ∀ g, Sm (fun o => o == 70) h g → ¬ (∃ mi, mi < 4 ∧ metB s1 st1 st2 pe1 bc mi) → Q (.inl (some (.int 0))) g) : WM G jX4_meet [.ref 68, .ref r1, .ref r2] h Q := by
  have o1 : ∀ d, d ≤ 6 → (fun o => o == 70) (r1 + d) = false := fun d hd => by rcases frc k1 with rfl | rfl | rfl | rfl <;> simp <;> omega
  have o2 : ∀ d, d ≤ 6 → (fun o => o == 70) (r2 + d) = false := fun d hd => by rcases frc k2 with rfl | rfl | rfl | rfl <;> simp <;> omega
  refine eX4_meet hi k1 k2 ?_
  rw [n_0]
  have loop : ∀ (d mi : Nat) (g : mH), mi + d = 4 → Sm (fun o => o == 70) h g → (∀ m', m' < mi → ¬ metB s1 st1 st2 pe1 bc m') → Vw G jX4_meet 2 [some (.ref 68), some (.ref r1), some (.ref r2), some (.int (iI mi))] [] g Q := by
    intro d
    induction d with
    | zero =>
      intro mi g hm hS hz
      have : mi = 4 := by omega
      subst this
      exact bX4_meet_2 (hS.iv hi) k1 k2 ⟨fun _ => kn g hS (fun ⟨m', h1, h2⟩ => hz m' h1 h2), fun z => absurd (by decide) z⟩
    | succ d ih =>
      intro mi g hm hS hz
      have gi := hS.iv hi
      have e1 : iI (mi : Int) + 1 = iI ((mi + 1 : Nat) : Int) := by rw [n_1, ad_n]
      have next : ∀ g', Sm (fun o => o == 70) h g' → ¬ metB s1 st1 st2 pe1 bc mi → Vw G jX4_meet 27 [some (.ref 68), some (.ref r1), some (.ref r2), some (.int (iI mi))] [] g' Q := fun g' hS' z => by
        refine bX4_meet_27 (hS'.iv hi) k1 k2 ?_
        rw [e1]
        refine ih (mi + 1) g' (by omega) hS' (fun m' hm' => ?_)
        by_cases e : m' = mi
        · subst e; exact z
        · exact hz m' (by omega)
      refine bX4_meet_2 gi k1 k2 ⟨fun z => ?_, fun _ => ?_⟩
      · rw [n_4, le_n (by omega) (by omega)] at z
        omega
      · refine mX4_findTimes gi k1 k2 (by omega) (FD_cg hS o1 f1) (FD_cg hS o2 f2) (fun p hp => ⟨by rw [hS.gI (o := 69) rfl]; exact (hbc p hp).1, (hbc p hp).2⟩) (fun g2 hS2 hev ht => ?_) (fun g2 hS2 hev => ?_)
        · have S2 := hS.tr hS2
          have g2i := S2.iv hi
          refine bX4_meet_14 g2i k1 k2 ⟨fun z => absurd z (by decide), fun _ => mX4_oneTimeForAll g2i k1 (FD_cg S2 o1 f1) ht (fun w => ?_) (fun w => ?_)⟩
          · exact bX4_meet_22 g2i k1 k2 ⟨fun z => absurd z (by decide), fun _ => ky g2 S2 ⟨mi, by omega, hev, w⟩⟩
          · exact bX4_meet_22 g2i k1 k2 ⟨fun _ => next g2 S2 (fun y => w y.2), fun z => absurd rfl z⟩
        · have S2 := hS.tr hS2
          exact bX4_meet_14 (S2.iv hi) k1 k2 ⟨fun _ => next g2 S2 (fun y => hev y.1), fun z => absurd rfl z⟩
  exact loop 4 0 h (by omega) Sm.rf (fun m' hm' => absurd hm' (by omega))
def jnS (o : Nat) : Bool := o == 69 || (o == 70)
theorem mX4_joins {r1 r2 R : Nat} {kk s1 s2 st1 st2 pe1 pe2 : Nat → Nat} (hi : Iv h) (k1 : kd r1 = (2, 11)) (k2 : kd r2 = (2, 11)) (f1 : FD h r1 kk s1 st1 pe1) (f2 : FD h r2 kk s2 st2 pe2) (hR : 0 < R) (hpe : ∀ q, q < 4 → 0 < s2 q → pe2 q ∣ R)
    (ky : ∀ g, Sm jnS h g → ALk kk s1 s2 st1 st2 pe1 pe2 → Q (.inl (some (.int 1))) g) (kn : ∀ g, Sm jnS h g → ¬ ALk kk s1 s2 st1 st2 pe1 pe2 → Q (.inl (some (.int 0))) g) : WM G jX4_joins [.ref 68, .ref r1, .ref r2] h Q := by
  have o1 : ∀ d, d ≤ 6 → jnS (r1 + d) = false := fun d hd => by unfold jnS; rcases frc k1 with rfl | rfl | rfl | rfl <;> simp <;> omega
  have o2 : ∀ d, d ≤ 6 → jnS (r2 + d) = false := fun d hd => by unfold jnS; rcases frc k2 with rfl | rfl | rfl | rfl <;> simp <;> omega
  have w69 : ∀ {a b : mH}, Sm (fun o => o == 69) a b → Sm jnS a b := fun hs => hs.wk (fun o ho => by unfold jnS at ho; simp at ho ⊢; omega)
  have w70 : ∀ {a b : mH}, Sm (fun o => o == 70) a b → Sm jnS a b := fun hs => hs.wk (fun o ho => by unfold jnS at ho; simp at ho ⊢; omega)
  refine eX4_joins hi k1 k2 ?_
  rw [n_0]
  have al : ∀ c, c < 8 → AWy kk s1 s2 pe1 pe2 (bcM (phi c)) → ∀ p, p < 4 → 0 < s1 p → pe1 p ∣ R := fun c hc ha p hp hl => by
    obtain ⟨a1, a2, a3⟩ := ha p hp
    rw [(a2 hl).2]
    exact hpe _ (bcM_4 _ (phi_8 c hc) p hp) (a1.mp hl)
  have loop : ∀ (d c : Nat) (g : mH), c + d = 8 → Sm jnS h g → (∀ c', c' < c → ¬ (AWy kk s1 s2 pe1 pe2 (bcM (phi c')) ∧ ∃ mi, mi < 4 ∧ metB s1 st1 st2 pe1 (bcM (phi c')) mi)) → Vw G jX4_joins 2 [some (.ref 68), some (.ref r1), some (.ref r2), some (.int (iI c))] [] g Q := by
    intro d
    induction d with
    | zero =>
      intro c g hc hS hz
      have : c = 8 := by omega
      subst this
      refine bX4_joins_2 (hS.iv hi) k1 k2 ⟨fun _ => kn g hS (fun ⟨w, hw, ha, mi, hm, t, ht⟩ => ?_), fun z => absurd (by decide) z⟩
      obtain ⟨c, hc8, e⟩ := phi_on w hw
      subst e
      exact hz c hc8 ⟨ha, mi, hm, (metB_tm hR (al c hc8 ha)).mpr ⟨t, ht⟩⟩
    | succ d ih =>
      intro c g hc hS hz
      have gi := hS.iv hi
      have hc8 : c < 8 := by omega
      have e1 : iI (c : Int) + 1 = iI ((c + 1 : Nat) : Int) := by rw [n_1, ad_n]
      have next : ∀ g', Sm jnS h g' → ¬ (AWy kk s1 s2 pe1 pe2 (bcM (phi c)) ∧ ∃ mi, mi < 4 ∧ metB s1 st1 st2 pe1 (bcM (phi c)) mi) → Vw G jX4_joins 33 [some (.ref 68), some (.ref r1), some (.ref r2), some (.int (iI c))] [] g' Q := fun g' hS' z => by
        refine bX4_joins_33 (hS'.iv hi) k1 k2 ?_
        rw [e1]
        refine ih (c + 1) g' (by omega) hS' (fun c' hc' => ?_)
        by_cases e : c' = c
        · subst e; exact z
        · exact hz c' (by omega)
      refine bX4_joins_2 gi k1 k2 ⟨fun z => ?_, fun _ => mX4_pair gi hc8 (fun g2 hS2 hb => ?_)⟩
      · rw [n_8, le_n (by omega) (by omega)] at z
        omega
      · have S2 := hS.tr (w69 hS2)
        have g2i := S2.iv hi
        have hbc : ∀ p, p < 4 → gI g2 69 p = iI (bcM (phi c) p : Nat) ∧ bcM (phi c) p < 4 := fun p hp => ⟨hb p hp, bcM_4 _ (phi_8 c hc8) p hp⟩
        refine bX4_joins_13 g2i k1 k2 (mX4_agree g2i k1 k2 (FD_cg S2 o1 f1) (FD_cg S2 o2 f2) hbc (fun ha => ?_) (fun ha => ?_))
        · refine bX4_joins_19 g2i k1 k2 ⟨fun z => absurd z (by decide), fun _ => mX4_meet g2i k1 k2 (FD_cg S2 o1 f1) (FD_cg S2 o2 f2) hbc (fun g3 hS3 hm => ?_) (fun g3 hS3 hm => ?_)⟩
          · have S3 := S2.tr (w70 hS3)
            obtain ⟨mi, hmi, hmm⟩ := hm
            obtain ⟨t, ht⟩ := (metB_tm hR (al c hc8 ha)).mp hmm
            exact bX4_joins_28 (S3.iv hi) k1 k2 ⟨fun z => absurd z (by decide), fun _ => ky g3 S3 ⟨phi c, phi_8 c hc8, ha, mi, hmi, t, ht⟩⟩
          · have S3 := S2.tr (w70 hS3)
            exact bX4_joins_28 (S3.iv hi) k1 k2 ⟨fun _ => next g3 S3 (fun y => hm y.2), fun z => absurd rfl z⟩
        · exact bX4_joins_19 g2i k1 k2 ⟨fun _ => next g2 S2 (fun y => ha y.1), fun z => absurd rfl z⟩
  exact loop 8 0 h (by omega) Sm.rf (fun c' hc' => absurd hc' (by omega))
end ALIKE2
