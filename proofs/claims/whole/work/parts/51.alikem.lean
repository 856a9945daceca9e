section ALIKEM
variable {G : GX} {h : mH} {Q : mO → mH → Prop}
theorem becomes_v : ∀ w, w < 8 → ∀ p, p < 4 → fX11_becomes (iI ((p : Nat) : Int)) (iI ((w : Nat) : Int)) = iI ((bcM w p : Nat) : Int) := by decide +kernel
theorem mX11_sizeOf {i p : Nat} (hi : Iv h) (hi8 : i < 8) (hp : p < 4) (hr : MR h 97 (12 * i)) (k : Q (.inl (some (.int (iI (szV h 97 (12 * i) p : Nat))))) h) : WM G jX11_sizeOf [.ref 83, .int (iI i), .int (iI p)] h Q := by
  have e : (12 : Int32) * iI (i : Int) + 8 + iI (p : Int) = iI ((12 * i + (8 + p) : Nat) : Int) := by rw [n_12, n_8, mu_n, ad_n, ad_n, Nat.add_assoc]
  refine eX11_sizeOf hi ?_
  rw [e, ix_n (by omega)]
  refine ⟨in_n (by omega) (by omega), ?_⟩
  have := (hr p hp).2.2.2.2.2.1
  rw [i32_nat this]
  exact k
theorem mX11_isWay {i k w : Nat} (hi : Iv h) (hi8 : i < 8) (hk8 : k < 8) (hw8 : w < 8) (ri : MR h 97 (12 * i)) (rk : MR h 97 (12 * k))
    (ky : AWy (kkV h 84) (szV h 97 (12 * i)) (szV h 97 (12 * k)) (perV h 85 97 (12 * i)) (perV h 85 97 (12 * k)) (bcM w) → Q (.inl (some (.int 1))) h) (kn : ¬ AWy (kkV h 84) (szV h 97 (12 * i)) (szV h 97 (12 * k)) (perV h 85 97 (12 * i)) (perV h 85 97 (12 * k)) (bcM w) → Q (.inl (some (.int 0))) h) : WM G jX11_isWay [.ref 83, .int (iI i), .int (iI k), .int (iI w)] h Q := by
  rw [AWy_ok] at ky kn
  refine eX11_isWay hi ?_
  have fK : ∀ p, p < 4 → gI h 84 p = iI (kkV h 84 p : Nat) ∧ kkV h 84 p ≤ 2 := fun p hp => ⟨i32_nat (ri p hp).1.1, by have := (ri p hp).1.2; unfold kkV; omega⟩
  have fS : ∀ j, MR h 97 (12 * j) → ∀ p, p < 4 → szV h 97 (12 * j) p ≤ 90 ∧ 2 ≤ perV h 85 97 (12 * j) p ∧ perV h 85 97 (12 * j) p ≤ 49 := fun j hj p hp => by
    obtain ⟨q1, q2, q3, q4, q5, ⟨q8, q9⟩⟩ := hj p hp
    have pb := perV_b (hj p hp)
    exact ⟨by unfold szV; omega, pb.1, pb.2⟩
  have e12 : ∀ j : Nat, (12 : Int32) * iI (j : Int) = iI ((12 * j : Nat) : Int) := fun j => by rw [n_12, mu_n]
  have loop : ∀ (d p : Nat), p + d = 4 → (∀ p', p' < p → okA (kkV h 84) (szV h 97 (12 * i)) (szV h 97 (12 * k)) (perV h 85 97 (12 * i)) (perV h 85 97 (12 * k)) (bcM w) p') → Vw G jX11_isWay 6 [some (.ref 83), some (.int (iI i)), some (.int (iI k)), some (.int (iI w)), some (.int (iI (fsV (ld (szV h 97 (12 * i))) p))), some (.int (iI p)), none] [] h Q := by
    intro d
    induction d with
    | zero =>
      intro p hp ho
      have : p = 4 := by omega
      subst this
      exact bX11_isWay_6 hi ⟨fun _ => ky ho, fun z => absurd (by decide) z⟩
    | succ d ih =>
      intro p hp ho
      have hp4 : p < 4 := by omega
      have e1 : iI (p : Int) + 1 = iI ((p + 1 : Nat) : Int) := by rw [n_1, ad_n]
      have b2 := bcM_4 w hw8 p hp4
      obtain ⟨a6, a8, a9⟩ := fS i ri p hp4
      obtain ⟨c6, c8, c9⟩ := fS k rk (bcM w p) b2
      have no : ¬ okA (kkV h 84) (szV h 97 (12 * i)) (szV h 97 (12 * k)) (perV h 85 97 (12 * i)) (perV h 85 97 (12 * k)) (bcM w) p → Q (.inl (some (.int 0))) h := fun z => kn (fun y => z (y p hp4))
      have fb := fsV_b (ld (szV h 97 (12 * i))) p
      have next : okA (kkV h 84) (szV h 97 (12 * i)) (szV h 97 (12 * k)) (perV h 85 97 (12 * i)) (perV h 85 97 (12 * k)) (bcM w) p → Vw G jX11_isWay 167 [some (.ref 83), some (.int (iI i)), some (.int (iI k)), some (.int (iI w)), some (.int (iI (fsV (ld (szV h 97 (12 * i))) (p + 1)))), some (.int (iI p)), none] [] h Q := fun z => by
        refine bX11_isWay_167 hi ?_
        rw [e1]
        refine ih (p + 1) (by omega) (fun p' hp' => ?_)
        by_cases e : p' = p
        · subst e; exact z
        · exact ho p' (by omega)
      refine bX11_isWay_6 hi ⟨fun z => ?_, fun _ => ?_⟩
      · rw [n_4, le_n (by omega) (by omega)] at z
        omega
      · rw [becomes_v w hw8 p hp4]
        refine mX11_sizeOf hi hi8 hp4 ri ?_
        -- both loud, or both not
        have mid : ∀ (l : Bool), l = decide (0 < szV h 97 (12 * i) p) → WM G jX11_sizeOf [.ref 83, .int (iI k), .int (iI (bcM w p : Nat))] h (Aft G jX11_isWay 39 [some (.ref 83), some (.int (iI i)), some (.int (iI k)), some (.int (iI w)), some (.int (iI (fsV (ld (szV h 97 (12 * i))) p))), some (.int (iI p)), some (.int (iI (bcM w p : Nat)))] [.int (bL l)] Q) := by
          intro l hl
          refine mX11_sizeOf hi hk8 b2 rk ?_
          have go : (0 < szV h 97 (12 * i) p ↔ 0 < szV h 97 (12 * k) (bcM w p)) → WM G jX11_sizeOf [.ref 83, .int (iI i), .int (iI p)] h (Aft G jX11_isWay 59 [some (.ref 83), some (.int (iI i)), some (.int (iI k)), some (.int (iI w)), some (.int (iI (fsV (ld (szV h 97 (12 * i))) p))), some (.int (iI p)), some (.int (iI (bcM w p : Nat)))] [] Q) := by
            intro hiff
            refine mX11_sizeOf hi hi8 hp4 ri ?_
            refine bX11_isWay_62 hi ⟨fun z => ?_, fun z => ?_⟩
            · rw [n_0, eq_n (by omega) (by omega)] at z
              have hl1 : 0 < szV h 97 (12 * i) p := by omega
              have hl2 := hiff.mp hl1
              have kb1 := fK p hp4
              have kb2 := fK _ b2
              rw [ix_n (by omega), ix_n (by omega), kb1.1, kb2.1]
              refine ⟨in_n (by omega) (by omega), in_n (by omega) (by omega), fun z => no (fun y => z ?_), fun z => ?_⟩
              · rw [(y.2 hl1).1]
              · rw [eq_n (by omega) (by omega)] at z
                rw [e12]
                refine mX11_period hi (a := 97) (n := 96) rfl (by omega) (by omega) hp4 ?_
                rw [perV_i (ri p hp4)]
                refine bX11_isWay_99 hi ?_
                rw [e12]
                refine mX11_period hi (a := 97) (n := 96) rfl (by omega) (by omega) b2 ?_
                rw [perV_i (rk _ b2)]
                obtain ⟨g1, g2, g3⟩ := ld_f hl1
                have gb := fsV_b (ld (szV h 97 (12 * i))) (p + 1)
                obtain ⟨n, hn⟩ : ∃ n : Nat, fsV (ld (szV h 97 (12 * i))) (p + 1) = n := ⟨(fsV (ld (szV h 97 (12 * i))) (p + 1)).toNat, by omega⟩
                have hnn : (fsV (ld (szV h 97 (12 * i))) (p + 1)).toNat = n := by omega
                have hn4 : n < 4 := by omega
                have last : perV h 85 97 (12 * i) p = perV h 85 97 (12 * k) (bcM w p) → Vw G jX11_isWay 128 [some (.ref 83), some (.int (iI i)), some (.int (iI k)), some (.int (iI w)), some (.int (iI (fsV (ld (szV h 97 (12 * i))) (p + 1)))), some (.int (iI p)), some (.int (iI (bcM w p : Nat)))] [] h Q := by
                  intro hpe
                  have m2 := bcM_4 w hw8 n hn4
                  have u6 := (fS i ri n hn4).1
                  have v6 := (fS k rk _ m2).1
                  rw [hn]
                  have mb1 : szV h 97 (12 * k) (bcM w n) * szV h 97 (12 * i) p ≤ 90 * 90 := Nat.mul_le_mul v6 a6
                  have mb2 : szV h 97 (12 * k) (bcM w p) * szV h 97 (12 * i) n ≤ 90 * 90 := Nat.mul_le_mul c6 u6
                  refine bX11_isWay_128 hi (mX11_sizeOf hi hk8 b2 rk (bX11_isWay_135 hi (mX11_sizeOf hi hi8 hn4 ri (bX11_isWay_142 hi ?_))))
                  rw [becomes_v w hw8 n hn4]
                  refine mX11_sizeOf hi hk8 m2 rk (bX11_isWay_154 hi (mX11_sizeOf hi hi8 hp4 ri (bX11_isWay_161 hi ?_)))
                  rw [mu_n, mu_n]
                  refine ⟨fun y => ?_, fun y => no (fun w => y ?_)⟩
                  · rw [eq_n (by omega) (by omega)] at y
                    rw [← hn]
                    refine next ⟨hiff, fun _ => ⟨z, hpe, ?_⟩⟩
                    rw [hnn]
                    exact y
                  · have := (w.2 hl1).2.2
                    rw [hnn] at this
                    rw [this]
                refine bX11_isWay_113 hi ⟨fun y => ?_, fun y => no (fun w => y (by rw [(w.2 hl1).2.1]))⟩
                rw [eq_n (by omega) (by omega)] at y
                refine ⟨fun x => ?_, fun x => ?_⟩
                · have hne : fsV (ld (szV h 97 (12 * i))) p ≠ -1 := fun e => x (by rw [e, m1_iI])
                  have := last y
                  rw [show fsV (ld (szV h 97 (12 * i))) (p + 1) = fsV (ld (szV h 97 (12 * i))) p from fsV_st hne 1] at this
                  exact this
                · rw [m1_iI, iI_eq ⟨by omega, by omega⟩ ⟨by decide, by decide⟩] at x
                  have := last y
                  rw [fsV_1 x (by unfold ld; exact decide_eq_true hl1)] at this
                  exact this
            · rw [n_0, eq_n (by omega) (by omega)] at z
              have := next ⟨hiff, fun x => by omega⟩
              rw [fsV_0 (by unfold ld; exact decide_eq_false (by omega))] at this
              exact this
          refine bX11_isWay_42 hi ⟨fun z => ⟨fun y => go ?_, fun y => no (fun x => y ?_)⟩, fun z => ⟨fun y => go ?_, fun y => no (fun x => y ?_)⟩⟩
          · rw [n_0, le_n (by omega) (by omega)] at z
            rw [bL_0] at y
            rw [y] at hl
            have := of_decide_eq_false hl.symm
            exact ⟨fun x => absurd x this, fun x => by omega⟩
          · rw [n_0, le_n (by omega) (by omega)] at z
            have := x.1
            rw [hl, decide_eq_false (by omega)]; rfl
          · rw [n_0, le_n (by omega) (by omega)] at z
            have hlt : l = true := by
              cases l with
              | true => rfl
              | false => exact absurd y (by decide)
            rw [hlt] at hl
            have := of_decide_eq_true hl.symm
            exact ⟨fun _ => by omega, fun _ => this⟩
          · rw [n_0, le_n (by omega) (by omega)] at z
            have := x.1
            rw [hl, decide_eq_true (by omega)]; rfl
        refine bX11_isWay_27 hi ⟨fun z => mid false ?_, fun z => mid true ?_⟩
        · rw [n_0, le_n (by omega) (by omega)] at z
          exact (decide_eq_false (by omega)).symm
        · rw [n_0, le_n (by omega) (by omega)] at z
          exact (decide_eq_true (by omega)).symm
  have := loop 4 0 (by omega) (fun p' hp' => absurd hp' (by omega))
  rw [n_0, m1_iI]
  exact this
theorem rem_n {a b : Nat} (ha : a ≤ 1000000) (hb1 : 1 ≤ b) (hb : b ≤ 1000000) : iI (a : Int) - iI (a : Int) / iI (b : Int) * iI (b : Int) = iI ((a % b : Nat) : Int) := by
  rw [iI_rem ⟨by omega, by omega⟩ ⟨by omega, by omega⟩, Int.tmod_eq_emod_of_nonneg (by omega)]
  rfl
theorem div_n {a b : Nat} (ha : a ≤ 1000000) (hb : b ≤ 1000000) : iI (a : Int) / iI (b : Int) = iI ((a / b : Nat) : Int) := by
  rw [iI_div ⟨by omega, by omega⟩ ⟨by omega, by omega⟩, Int.tdiv_eq_ediv_of_nonneg (by omega)]
  rfl
theorem mod_b {a b : Nat} (hb1 : 1 ≤ b) (hb : b ≤ 1000000) : a % b ≤ 1000000 := by
  have := Nat.mod_lt a hb1
  omega
theorem mX11_isTime {i k w t mi : Nat} (hi : Iv h) (hi8 : i < 8) (hk8 : k < 8) (hw8 : w < 8) (ht : t ≤ 6000) (hmi : mi < 4) (ri : MR h 97 (12 * i)) (rk : MR h 97 (12 * k))
    (ky : TMk (szV h 97 (12 * i)) (saV h 97 (12 * i)) (saV h 97 (12 * k)) (perV h 85 97 (12 * i)) (bcM w) mi t → Q (.inl (some (.int 1))) h) (kn : ¬ TMk (szV h 97 (12 * i)) (saV h 97 (12 * i)) (saV h 97 (12 * k)) (perV h 85 97 (12 * i)) (bcM w) mi t → Q (.inl (some (.int 0))) h) : WM G jX11_isTime [.ref 83, .int (iI i), .int (iI k), .int (iI w), .int (iI t), .int (iI mi)] h Q := by
  refine eX11_isTime hi ?_
  rw [n_0]
  have e12 : ∀ j : Nat, (12 : Int32) * iI (j : Int) = iI ((12 * j : Nat) : Int) := fun j => by rw [n_12, mu_n]
  have loop : ∀ (d p : Nat), p + d = 4 → (∀ p', p' < p → (0 < szV h 97 (12 * i) p' → (mirB mi (bcM w p' / 2) = true → perV h 85 97 (12 * i) p' % 2 = 0) ∧ (saV h 97 (12 * i) p' + t + (if mirB mi (bcM w p' / 2) then perV h 85 97 (12 * i) p' / 2 else 0)) % perV h 85 97 (12 * i) p' = saV h 97 (12 * k) (bcM w p') % perV h 85 97 (12 * i) p')) → Vw G jX11_isTime 3 [some (.ref 83), some (.int (iI i)), some (.int (iI k)), some (.int (iI w)), some (.int (iI t)), some (.int (iI mi)), some (.int (iI p)), none, none, none, none] [] h Q := by
    intro d
    induction d with
    | zero =>
      intro p hp ho
      have : p = 4 := by omega
      subst this
      exact bX11_isTime_3 hi ⟨fun _ => ky ho, fun z => absurd (by decide) z⟩
    | succ d ih =>
      intro p hp ho
      have hp4 : p < 4 := by omega
      have e1 : iI (p : Int) + 1 = iI ((p + 1 : Nat) : Int) := by rw [n_1, ad_n]
      have b2 := bcM_4 w hw8 p hp4
      obtain ⟨q1, q2, q3, q4, ⟨q5, q6⟩, ⟨q8, q9⟩⟩ := ri p hp4
      obtain ⟨u1, u2, u3, u4, ⟨u5, u6⟩, ⟨u8, u9⟩⟩ := rk _ b2
      have pb := perV_b (ri p hp4)
      have hsz : szV h 97 (12 * i) p ≤ 90 := by unfold szV; omega
      have hsa : saV h 97 (12 * i) p ≤ 99 := by unfold saV; omega
      have hsb : saV h 97 (12 * k) (bcM w p) ≤ 99 := by unfold saV; omega
      have no : ¬ (0 < szV h 97 (12 * i) p → (mirB mi (bcM w p / 2) = true → perV h 85 97 (12 * i) p % 2 = 0) ∧ (saV h 97 (12 * i) p + t + (if mirB mi (bcM w p / 2) then perV h 85 97 (12 * i) p / 2 else 0)) % perV h 85 97 (12 * i) p = saV h 97 (12 * k) (bcM w p) % perV h 85 97 (12 * i) p) → Q (.inl (some (.int 0))) h := fun z => kn (fun y => z (y p hp4))
      have next : (0 < szV h 97 (12 * i) p → (mirB mi (bcM w p / 2) = true → perV h 85 97 (12 * i) p % 2 = 0) ∧ (saV h 97 (12 * i) p + t + (if mirB mi (bcM w p / 2) then perV h 85 97 (12 * i) p / 2 else 0)) % perV h 85 97 (12 * i) p = saV h 97 (12 * k) (bcM w p) % perV h 85 97 (12 * i) p) → Vw G jX11_isTime 141 [some (.ref 83), some (.int (iI i)), some (.int (iI k)), some (.int (iI w)), some (.int (iI t)), some (.int (iI mi)), some (.int (iI p)), none, none, none, none] [] h Q := fun z => by
        refine bX11_isTime_141 hi ?_
        rw [e1]
        refine ih (p + 1) (by omega) (fun p' hp' => ?_)
        by_cases e : p' = p
        · subst e; exact z
        · exact ho p' (by omega)
      refine bX11_isTime_3 hi ⟨fun z => ?_, fun _ => mX11_sizeOf hi hi8 hp4 ri ?_⟩
      · rw [n_4, le_n (by omega) (by omega)] at z
        omega
      · refine bX11_isTime_16 hi ⟨fun z => ?_, fun z => ?_⟩
        · rw [n_0, eq_n (by omega) (by omega)] at z
          have hl : 0 < szV h 97 (12 * i) p := by omega
          rw [e12, becomes_v w hw8 p hp4]
          refine mX11_period hi (a := 97) (n := 96) rfl (by omega) (by omega) hp4 ?_
          rw [perV_i (ri p hp4)]
          have g1 : gI h 97 (12 * i + 4 + p) = iI (saV h 97 (12 * i) p : Nat) := by
            rw [Nat.add_assoc]; exact i32_nat q5
          have g2 : gI h 97 (12 * k + 4 + bcM w p) = iI (saV h 97 (12 * k) (bcM w p) : Nat) := by
            rw [Nat.add_assoc]; exact i32_nat u5
          generalize hP : perV h 85 97 (12 * i) p = P at *
          generalize hA : saV h 97 (12 * i) p = A at *
          generalize hB : saV h 97 (12 * k) (bcM w p) = B at *
          have e81 : ∀ (m : Bool), mirB mi (bcM w p / 2) = m → (m = true → P % 2 = 0) → Vw G jX11_isTime 81 [some (.ref 83), some (.int (iI i)), some (.int (iI k)), some (.int (iI w)), some (.int (iI t)), some (.int (iI mi)), some (.int (iI p)), some (.int (iI (bcM w p : Nat))), some (.int (iI (P : Nat))), some (.int (bL m)), none] [] h Q := by
            intro m hm hev
            have m1 : iI ((12 * i : Nat) : Int) + 4 + iI (p : Int) = iI ((12 * i + 4 + p : Nat) : Int) := by rw [n_4, ad_n, ad_n]
            have m2 : iI ((12 * k : Nat) : Int) + 4 + iI (bcM w p : Nat) = iI ((12 * k + 4 + bcM w p : Nat) : Int) := by rw [n_4, ad_n, ad_n]
            have hP2 : iI (P : Int) / (2 : Int32) = iI ((P / 2 : Nat) : Int) := by rw [n_2, div_n (by omega) (by omega)]
            have hz0 : ∀ x : Nat, iI (x : Int) + 0 = iI (x : Int) := fun x => by rw [n_0, ad_n, Nat.add_zero]
            refine bX11_isTime_81 hi ?_
            rw [e12, e12, m1, m2, ix_n (by omega), ix_n (by omega), g1, g2, ad_n, hz0, hP2, ad_n, rem_n (a := A + t) (by omega) (by omega) (by omega), rem_n (a := B) (by omega) (by omega) (by omega), rem_n (a := A + t + P / 2) (by omega) (by omega) (by omega)]
            have mb1 := mod_b (a := A + t) (b := P) (by omega) (by omega)
            have mb2 := mod_b (a := B) (b := P) (by omega) (by omega)
            have mb3 := mod_b (a := A + t + P / 2) (b := P) (by omega) (by omega)
            have pz : ¬ iI (P : Int) = 0 := by rw [n_0, eq_n (by omega) (by omega)]; omega
            rw [hm] at next no
            refine ⟨in_n (by omega) (by omega), fun y => ⟨pz, in_n (by omega) (by omega), pz, fun x => next (fun _ => ⟨hev, ?_⟩), fun x => no (fun v => x ?_)⟩, fun y => ⟨pz, in_n (by omega) (by omega), pz, fun x => next (fun _ => ⟨hev, ?_⟩), fun x => no (fun v => x ?_)⟩⟩
            · rw [bL_0] at y
              rw [y, eq_n (by omega) (by omega)] at *
              exact x
            · rw [bL_0] at y
              have := (v hl).2
              rw [y] at this
              rw [show A + t = A + t + (if false = true then P / 2 else 0) from rfl, this]
            · have hmt : m = true := by
                cases m with
                | true => rfl
                | false => exact absurd rfl y
              rw [hmt, if_pos rfl]
              rw [eq_n (by omega) (by omega)] at x
              exact x
            · have hmt : m = true := by
                cases m with
                | true => rfl
                | false => exact absurd rfl y
              have := (v hl).2
              rw [hmt, if_pos rfl] at this
              rw [this]
          refine bX11_isTime_44 hi ⟨fun y => e81 false ?_ (fun z => (by cases z)), fun y => ⟨fun x => e81 true ?_ (fun _ => ?_), fun x => no (fun v => ?_)⟩⟩
          · rw [mir_v mi hmi _ b2] at y
            simpa using y
          · rw [mir_v mi hmi _ b2] at y
            exact y
          · rw [n_2, rem_n (by omega) (by omega) (by omega), n_1, eq_n (by omega) (by omega)] at x
            omega
          · rw [mir_v mi hmi _ b2] at y
            have := (v hl).1 y
            rw [n_2, rem_n (by omega) (by omega) (by omega), n_1, eq_n (by omega) (by omega)] at x
            omega
        · rw [n_0, eq_n (by omega) (by omega)] at z
          exact next (fun x => by omega)
  exact loop 4 0 (by omega) (fun p' hp' => absurd hp' (by omega))
theorem mX11_alikeOf {i k : Nat} (hi : Iv h) (hi8 : i < 8) (hk8 : k < 8) (ri : MR h 97 (12 * i)) (rk : MR h 97 (12 * k)) (kk : Q (.inl (some (.int (iI (alV h 84 85 97 i k))))) h) : WM G jX11_alikeOf [.ref 83, .int (iI i), .int (iI k)] h Q := by
  have e12 : ∀ j : Nat, (12 : Int32) * iI (j : Int) = iI ((12 * j : Nat) : Int) := fun j => by rw [n_12, mu_n]
  refine eX11_alikeOf hi ?_
  rw [e12]
  refine mX11_roundOf hi (a := 97) (n := 96) rfl (by omega) (by omega) rk ?_
  obtain ⟨rb1, rb2⟩ := rdV_b4 (f := 12 * k) (a4 := 97) (a1 := 84) (a2 := 85) (a3 := 86) rk 4 (by omega)
  unfold alV at kk
  refine bX11_alikeOf_12 hi ⟨fun c => ?_, fun c => ?_⟩
  · rw [n_5040, le_n (by omega) (by omega)] at c
    rw [if_neg (by omega)] at kk
    have ky : ALp h 84 85 97 i k → Q (.inl (some (.int 1))) h := fun ha => by
      rw [if_pos (alB_1 ha)] at kk; exact kk
    have kn : ¬ ALp h 84 85 97 i k → Q (.inl (some (.int 0))) h := fun ha => by
      rw [alB_0 ha] at kk; exact kk
    have hR : ∀ w, w < 8 → AWy (kkV h 84) (szV h 97 (12 * i)) (szV h 97 (12 * k)) (perV h 85 97 (12 * i)) (perV h 85 97 (12 * k)) (bcM w) → ∀ p, p < 4 → 0 < szV h 97 (12 * i) p → perV h 85 97 (12 * i) p ∣ rdV h 85 97 (12 * k) 4 := fun w hw ha p hp hl => by
      obtain ⟨a1, a2, a3⟩ := ha p hp
      rw [(a2 hl).2]
      refine rdV_dv 4 _ (bcM_4 w hw p hp) (fun e => ?_)
      have := a1.mp hl
      unfold szV at this
      omega
    generalize hRR : rdV h 85 97 (12 * k) 4 = R at *
    rw [n_0]
    have loop : ∀ (d w : Nat), w + d = 8 → (∀ w', w' < w → ¬ (AWy (kkV h 84) (szV h 97 (12 * i)) (szV h 97 (12 * k)) (perV h 85 97 (12 * i)) (perV h 85 97 (12 * k)) (bcM w') ∧ ∃ mi, mi < 4 ∧ ∃ t, TMk (szV h 97 (12 * i)) (saV h 97 (12 * i)) (saV h 97 (12 * k)) (perV h 85 97 (12 * i)) (bcM w') mi t)) → Vw G jX11_alikeOf 26 [some (.ref 83), some (.int (iI i)), some (.int (iI k)), some (.int (iI R)), some (.int (iI w)), none] [] h Q := by
      intro d
      induction d with
      | zero =>
        intro w hw hz
        have : w = 8 := by omega
        subst this
        exact bX11_alikeOf_26 hi ⟨fun _ => kn (fun ⟨w, h1, h2, h3⟩ => hz w h1 ⟨h2, h3⟩), fun z => absurd (by decide) z⟩
      | succ d ih =>
        intro w hw hz
        have hw8 : w < 8 := by omega
        have e1 : iI (w : Int) + 1 = iI ((w + 1 : Nat) : Int) := by rw [n_1, ad_n]
        have next : ¬ (AWy (kkV h 84) (szV h 97 (12 * i)) (szV h 97 (12 * k)) (perV h 85 97 (12 * i)) (perV h 85 97 (12 * k)) (bcM w) ∧ ∃ mi, mi < 4 ∧ ∃ t, TMk (szV h 97 (12 * i)) (saV h 97 (12 * i)) (saV h 97 (12 * k)) (perV h 85 97 (12 * i)) (bcM w) mi t) → Vw G jX11_alikeOf 85 [some (.ref 83), some (.int (iI i)), some (.int (iI k)), some (.int (iI R)), some (.int (iI w)), none] [] h Q := fun z => by
          refine bX11_alikeOf_85 hi ?_
          rw [e1]
          refine ih (w + 1) (by omega) (fun w' hw' => ?_)
          by_cases e : w' = w
          · subst e; exact z
          · exact hz w' (by omega)
        refine bX11_alikeOf_26 hi ⟨fun z => ?_, fun _ => mX11_isWay hi hi8 hk8 hw8 ri rk (fun ha => ?_) (fun ha => ?_)⟩
        · rw [n_8, le_n (by omega) (by omega)] at z
          omega
        · refine bX11_alikeOf_41 hi ⟨fun _ => ?_, fun z => absurd z (by decide)⟩
          rw [n_0]
          have e4 : (4 : Int32) * iI (R : Int) = iI ((4 * R : Nat) : Int) := by rw [n_4, mu_n]
          have inner : ∀ (e x : Nat), x + e = 4 * R → (∀ x', x' < x → ¬ TMk (szV h 97 (12 * i)) (saV h 97 (12 * i)) (saV h 97 (12 * k)) (perV h 85 97 (12 * i)) (bcM w) (x' % 4) (x' / 4)) → Vw G jX11_alikeOf 50 [some (.ref 83), some (.int (iI i)), some (.int (iI k)), some (.int (iI R)), some (.int (iI w)), some (.int (iI x))] [] h Q := by
            intro e
            induction e with
            | zero =>
              intro x hx hno
              refine bX11_alikeOf_50 hi ⟨fun _ => next (fun ⟨_, mi, hmi, t, ht⟩ => ?_), fun z => absurd ?_ z⟩
              · obtain ⟨t', ht1, ht2⟩ := TMk_crt (st2 := saV h 97 (12 * k)) (mi := mi) (bc := bcM w) rb1 (hR w hw8 ha) (fun p hp l => (ht p hp l).1) (fun p q hq hp l1 l2 => TMk_each ht hp (by omega) l1 l2)
                refine hno (4 * t' + mi) (by omega) ?_
                rw [show (4 * t' + mi) % 4 = mi from by omega, show (4 * t' + mi) / 4 = t' from by omega]
                exact ht2
              · rw [e4, le_n (by omega) (by omega)]; omega
            | succ e ihx =>
              intro x hx hno
              have e5 : iI (x : Int) + 1 = iI ((x + 1 : Nat) : Int) := by rw [n_1, ad_n]
              refine bX11_alikeOf_50 hi ⟨fun z => ?_, fun _ => ?_⟩
              · rw [e4, le_n (by omega) (by omega)] at z
                omega
              · rw [n_4, rem_n (by omega) (by omega) (by omega), div_n (by omega) (by omega)]
                refine mX11_isTime hi hi8 hk8 hw8 (by omega) (by omega) ri rk (fun ht => ?_) (fun ht => ?_)
                · exact bX11_alikeOf_74 hi ⟨fun z => absurd z (by decide), fun _ => ky ⟨w, hw8, ha, x % 4, by omega, x / 4, ht⟩⟩
                · refine bX11_alikeOf_74 hi ⟨fun _ => ?_, fun z => absurd rfl z⟩
                  rw [e5]
                  refine ihx (x + 1) (by omega) (fun x' hx' => ?_)
                  by_cases e : x' = x
                  · subst e; exact ht
                  · exact hno x' (by omega)
          exact inner (4 * R) 0 (by omega) (fun x' hx' => absurd hx' (by omega))
        · exact bX11_alikeOf_41 hi ⟨fun z => absurd rfl z, fun _ => next (fun y => ha y.1)⟩
    exact loop 8 0 (by omega) (fun w' hw' => absurd hw' (by omega))
  · rw [n_5040, le_n (by omega) (by omega)] at c
    rw [if_pos (by omega)] at kk
    exact kk
end ALIKEM
