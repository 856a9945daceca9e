section PERFC3
variable {G : GX} {h : mH} {Q : mO → mH → Prop} {W : WL} {st : Nat → Int}
theorem mX6_holds {b t : Nat} {u : Bool} {m : Nat → Nat} {te : Int} (hi : Iv h) (hW : WR W) (hs : StR st) (hP : CPr W b t u st m h) (ht : t ≤ 9999) (hm : ∀ c, m c ≤ t) (h0 : 0 ≤ te) (h6 : te ≤ 6) (k : ∀ g, Sm (cr 56) h g → WX W st g → Q (.inl (some (.int (bL (hoW W st u t m te))))) g) : WM G jX6_holds [.ref 55, .int (iI te)] h Q := by
  obtain ⟨x, _, b4, _, d, e⟩ := id hP
  have posq : ∀ (ax : Nat) (g : mH), ax < 2 → WX W st g → (iI (pW W st ax t) ≤ 0 ↔ ¬ 0 < pW W st ax t) := fun ax g hax X => by
    obtain ⟨a1, a2, _, a4⟩ := WX_FR hW hs X
    have pb := pnF_b (t := t) a1 a2 hax
    rw [a4 ax t hax] at pb
    rw [show (0 : Int32) = iI 0 from by decide, iI_le ⟨by omega, by omega⟩ ⟨by decide, by decide⟩]
    omega
  have tq : ∀ c : Int, 0 ≤ c → c ≤ 10 → (iI te = iI c ↔ te = c) := fun c h1 h2 => iI_eq ⟨by omega, by omega⟩ ⟨by omega, by omega⟩
  unfold hoW at k
  refine eX6_holds hi ?_
  rw [show (3 : Int32) = iI 3 from by decide, iI_sub, show (0 : Int32) = iI 0 from by decide, show (1 : Int32) = iI 1 from by decide, show (2 : Int32) = iI 2 from by decide, tq 0 (by omega) (by omega), tq 1 (by omega) (by omega), tq 2 (by omega) (by omega), b4, d, show iI 0 = (0 : Int32) from by decide, show iI 1 = (1 : Int32) from by decide]
  refine ⟨fun c => ?_, fun c => ?_, fun c => ?_, fun c0 c1 c2 => ?_⟩
  · rw [if_pos c] at k
    refine mX6_cell hi hW hs x ht b4 d (fun g S X => ?_)
    have cb := (cW_b hW hs X u t).1
    have M := (CPr_S S X hP).2.2.2.2.2
    have mc := hm (cW W st u t)
    refine bX6_holds_32 (S.iv hi) ⟨fun w => absurd w (isC_1 cb), fun _ => ?_⟩
    rw [ix_n (by omega), M.1 _ (by omega), n_0, le_n (by omega) (by omega), ← n_0]
    refine ⟨in_n (by omega) (by omega), fun w => ?_, fun w => ?_⟩
    · have := k g S X
      rw [decide_eq_false (by omega)] at this
      exact this
    · have := k g S X
      rw [decide_eq_true (by omega)] at this
      exact this
  · rw [if_neg (by omega), if_pos c] at k
    have fin : ∀ g, Sm (cr 56) h g → WX W st g → Vw G jX6_holds 78 [none, none, none, none] [.int (iI (pW W st (bx u) t))] g Q := fun g S X => by
      refine bX6_holds_78 (S.iv hi) ?_
      rw [posq _ g (bx_lt u) X]
      refine ⟨fun w => ?_, fun w => ?_⟩
      · have := k g S X
        rw [decide_eq_false w] at this
        exact this
      · have := k g S X
        rw [decide_eq_true (Classical.not_not.mp w)] at this
        exact this
    refine ⟨fun w => ?_, fun w => ?_⟩
    · rw [bL_0] at w
      subst w
      rw [n_0]
      exact mX6_pen hi hW hs x (by omega) ht fin
    · rw [bL_1] at w
      subst w
      rw [n_1]
      exact mX6_pen hi hW hs x (by omega) ht fin
  · rw [if_neg (by omega), if_neg (by omega), if_pos c] at k
    have fin : ∀ g, Sm (cr 56) h g → WX W st g → Vw G jX6_holds 110 [none, none, none, none] [.int (iI (pW W st (bx (!u)) t))] g Q := fun g S X => by
      refine bX6_holds_110 (S.iv hi) ?_
      rw [posq _ g (bx_lt (!u)) X]
      refine ⟨fun w => ?_, fun w => ?_⟩
      · have := k g S X
        rw [decide_eq_false w] at this
        exact this
      · have := k g S X
        rw [decide_eq_true (Classical.not_not.mp w)] at this
        exact this
    refine ⟨fun w => ?_, fun w => ?_⟩
    · rw [bL_0] at w
      subst w
      rw [n_1]
      exact mX6_pen hi hW hs x (by omega) ht fin
    · rw [bL_1] at w
      subst w
      rw [n_0]
      exact mX6_pen hi hW hs x (by omega) ht fin
  · rw [if_neg c0, if_neg c1, if_neg c2] at k
    obtain ⟨p, hp⟩ : ∃ p : Nat, te - 3 = p := ⟨(te - 3).toNat, by omega⟩
    rw [hp, Int.toNat_natCast] at k
    rw [hp]
    refine ⟨fun w => ?_, fun _ => ⟨fun w => ?_, fun _ => ?_⟩⟩
    · rw [n_0, lt_n (by omega) (by omega)] at w
      omega
    · rw [n_4, le_n (by omega) (by omega)] at w
      omega
    · obtain ⟨a1, a2, a3, a4⟩ := WX_FR hW hs x
      have p4 : p < 4 := by omega
      have ab := atV_b (a1 p p4) t
      have ea : atV h 57 58 59 60 0 p t = aW W st p t := a3 p t p4
      refine mX2_where hi rfl p4 (by omega) (a1 p p4).ok x.2.2.2.2 (fun g S f => ?_)
      have X := WX_S S f x
      have eb : atI (gI h (56 + 1) p).toInt (gI h (56 + 2) p).toInt (gI h (56 + 3) p).toInt (gI h (56 + 4) (0 + p)).toInt (gI h (56 + 4) (0 + (4 + p))).toInt (gI h (56 + 4) (0 + (8 + p))).toInt t = aW W st p t := ea
      have ab' : -90 ≤ aW W st p t ∧ aW W st p t ≤ 90 := by rw [← ea]; exact ab
      rw [eb]
      refine bX6_holds_144 (S.iv hi) ?_
      rw [show (0 : Int32) = iI 0 from by decide, iI_eq ⟨by omega, by omega⟩ ⟨by decide, by decide⟩, show iI 0 = (0 : Int32) from by decide]
      refine ⟨fun w => ?_, fun w => ?_⟩
      · have := k g S X
        rw [decide_eq_false (fun y => y w)] at this
        exact this
      · have := k g S X
        rw [decide_eq_true w] at this
        exact this
end PERFC3
