section SMALL
variable {G : GX} {h : mH} {Q : mO → mH → Prop}
theorem mX11_swing {p t : Int32} (hi : Iv h) (hm : MR h 87 0) (kN : ¬ (0 ≤ p.toInt ∧ p.toInt ≤ 3) → Q (.inl (some (.int 0))) (pI (pI h 83 0 0) 83 0 1)) (kI : (0 ≤ p.toInt ∧ p.toInt ≤ 3) → ¬ (0 ≤ t.toInt ∧ t.toInt ≤ 9999) → Q (.inl (some (.int 0))) (pI (pI h 83 0 0) 83 0 2))
    (k : (0 ≤ p.toInt ∧ p.toInt ≤ 3) → (0 ≤ t.toInt ∧ t.toInt ≤ 9999) → Q (.inl (some (.int (iI (atV h 84 85 86 87 0 p.toInt.toNat t.toInt.toNat))))) (pI h 83 0 0)) : WM G jX11_swing [.ref 83, .int p, .int t] h Q := by
  have hi0 : Iv (pI h 83 0 0) := hi
  have h00 : gI (pI h 83 0 0) 83 0 = 0 := by rw [gI_pI]; rfl
  have hS := Sm_ts h 0
  have hm0 := MR_cg hS (a := 87) (f := 0) rfl rfl rfl rfl hm
  refine eX11_swing hi (mX11_isPendulum hi0 h00 (fun hp => ?_) (fun hp => bX11_swing_10 (h := pI (pI h 83 0 0) 83 0 1) hi ⟨fun _ => kN hp, fun z => absurd rfl z⟩))
  refine bX11_swing_10 hi0 ⟨fun z => absurd z (by decide), fun _ => mX11_isTick hi0 h00 (by decide) (fun ht => ?_) (fun ht => bX11_swing_19 (h := pI (pI h 83 0 0) 83 0 2) hi ⟨fun _ => kI hp ht, fun z => absurd rfl z⟩)⟩
  refine bX11_swing_19 hi0 ⟨fun z => absurd z (by decide), fun _ => ?_⟩
  have k' := k hp ht
  have b1 : p.toInt.toNat < 4 := by have := hp.2; omega
  have b2 : t.toInt.toNat ≤ 9999 := by have := ht.2; omega
  rw [i32_nat hp.1, i32_nat ht.1]
  refine mX11_at (f := 0) hi0 (a := 87) (n := 12) rfl (by omega) (by omega) b1 (by omega) (hm0 _ b1).ok (bX11_swing_33 hi0 ?_)
  have := atV_cg hS (a1 := 84) (a2 := 85) (a3 := 86) (a4 := 87) (f := 0) rfl rfl rfl rfl p.toInt.toNat t.toInt.toNat
  unfold atV at this k'
  rw [this]
  exact k'
theorem mX11_pen {t ax : Int32} (hi : Iv h) (hm : MR h 87 0) (hc : CM h) (kN : ¬ (0 ≤ ax.toInt ∧ ax.toInt ≤ 1) → Q (.inl (some (.int 0))) (pI (pI h 83 0 0) 83 0 1)) (kI : (0 ≤ ax.toInt ∧ ax.toInt ≤ 1) → ¬ (0 ≤ t.toInt ∧ t.toInt ≤ 9999) → Q (.inl (some (.int 0))) (pI (pI h 83 0 0) 83 0 2))
    (k : (0 ≤ ax.toInt ∧ ax.toInt ≤ 1) → (0 ≤ t.toInt ∧ t.toInt ≤ 9999) → Q (.inl (some (.int (iI (pnM h ax.toInt.toNat t.toInt.toNat))))) (pI h 83 0 0)) : WM G jX11_pen [.ref 83, .int t, .int ax] h Q := by
  have hi0 : Iv (pI h 83 0 0) := hi
  have h00 : gI (pI h 83 0 0) 83 0 = 0 := by rw [gI_pI]; rfl
  have hs0 := (sc2.rf (h := h)).th 0
  have hm0 := hs0.mr (a := 87) (f := 0) rfl hm
  have hc0 := hs0.cm hc
  have e0 : ax = 0 ↔ ax.toInt = 0 := by rw [i32_0, i32_eq ⟨by decide, by decide⟩]
  have e1 : ax = 1 ↔ ax.toInt = 1 := by rw [show (1 : Int32) = iI 1 from by decide, i32_eq ⟨by decide, by decide⟩]
  suffices go : (0 ≤ ax.toInt ∧ ax.toInt ≤ 1) → Vw G jX11_pen 24 [some (.ref 83), some (.int t), some (.int ax)] [.int 1] (pI h 83 0 0) Q by
    refine eX11_pen hi ⟨fun c => mX11_right1 hi0 h00 (by decide) (go ?_), fun c => ⟨fun c1 => mX11_right0 hi0 h00 (by decide) (bX11_pen_24 (h := pI (pI h 83 0 0) 83 0 1) hi ⟨fun _ => kN ?_, fun z => absurd rfl z⟩), fun c1 => mX11_right1 hi0 h00 (by decide) (go ?_)⟩⟩
    · rw [e0] at c; omega
    · rw [e0] at c; rw [e1] at c1; omega
    · rw [e1] at c1; omega
  intro hx
  refine bX11_pen_24 hi0 ⟨fun z => absurd z (by decide), fun _ => mX11_isTick hi0 h00 (by decide) (fun ht => ?_) (fun ht => bX11_pen_33 (h := pI (pI h 83 0 0) 83 0 2) hi ⟨fun _ => kI hx ht, fun z => absurd rfl z⟩)⟩
  refine bX11_pen_33 hi0 ⟨fun z => absurd z (by decide), fun _ => ?_⟩
  have k' := k hx ht
  have b1 : ax.toInt.toNat < 2 := by have := hx.2; omega
  have b2 : t.toInt.toNat ≤ 9999 := by have := ht.2; omega
  rw [i32_nat hx.1, i32_nat ht.1]
  refine mX11_penNow hi0 b1 (by omega) hm0 hc0 (bX11_pen_42 hi0 ?_)
  rw [pnM_rows hs0.1 rfl rfl rfl rfl rfl (hs0.2 2 (by omega))]
  exact k'
def cntM (h : mH) (w : Nat) : Int32 := match w with
  | 0 => gI h 83 1
  | 1 => gI h 83 2
  | 2 => gI h 83 30
  | 3 => gI h 83 33
  | 4 => gI h 83 36
  | 5 => gI h 83 9
  | n + 6 => gI h 90 n
theorem mX11_count {w : Int32} (hi : Iv h) (kN : ¬ (0 ≤ w.toInt ∧ w.toInt ≤ 10) → Q (.inl (some (.int 0))) (pI (pI h 83 0 0) 83 0 1)) (k : (0 ≤ w.toInt ∧ w.toInt ≤ 10) → Q (.inl (some (.int (cntM h w.toInt.toNat)))) (pI h 83 0 0)) : WM G jX11_count [.ref 83, .int w] h Q := by
  have hi0 : Iv (pI h 83 0 0) := hi
  have h00 : gI (pI h 83 0 0) 83 0 = 0 := by rw [gI_pI]; rfl
  refine eX11_count hi ?_
  rw [show fX11_within w 0 10 = bI (0 ≤ w.toInt ∧ w.toInt ≤ 10) from within_b (a := 0) (b := 10) ⟨by decide, by decide⟩ ⟨by decide, by decide⟩]
  refine mX11_right hi0 h00 (by decide) (fun hw => ?_) (fun hw => bX11_count_17 (h := pI (pI h 83 0 0) 83 0 1) hi ⟨fun z => absurd rfl z, fun _ => kN hw⟩)
  obtain ⟨p1, p2⟩ := hw
  replace k := k ⟨p1, p2⟩
  obtain ⟨n, hn⟩ : ∃ n : Nat, w.toInt = n := ⟨w.toInt.toNat, by omega⟩
  have hw : w = iI n := by rw [← hn, iI_self]
  have hn10 : n ≤ 10 := by omega
  rw [hn, Int.toNat_natCast] at k
  clear hn p1 p2 kN
  subst hw
  have e : ∀ c : Nat, c ≤ 10 → (iI (n : Int) = iI (c : Int) ↔ n = c) := fun c hc => by rw [iI_eq ⟨by omega, by omega⟩ ⟨by omega, by omega⟩]; omega
  refine bX11_count_17 hi0 ⟨fun _ => ⟨fun c => ?_, fun c => ?_, fun c => ?_, fun c => ?_, fun c => ?_, fun c => ?_, fun c0 c1 c2 c3 c4 c5 => ?_⟩, fun z => absurd z (by decide)⟩
  · rw [show (0 : Int32) = iI ((0 : Nat) : Int) from by decide, e _ (by omega)] at c; subst c; exact k
  · rw [show (1 : Int32) = iI ((1 : Nat) : Int) from by decide, e _ (by omega)] at c; subst c; exact k
  · rw [show (2 : Int32) = iI ((2 : Nat) : Int) from by decide, e _ (by omega)] at c; subst c; exact k
  · rw [show (3 : Int32) = iI ((3 : Nat) : Int) from by decide, e _ (by omega)] at c; subst c; exact k
  · rw [show (4 : Int32) = iI ((4 : Nat) : Int) from by decide, e _ (by omega)] at c; subst c; exact k
  · rw [show (5 : Int32) = iI ((5 : Nat) : Int) from by decide, e _ (by omega)] at c; subst c; exact k
  · rw [show (0 : Int32) = iI ((0 : Nat) : Int) from by decide, e _ (by omega)] at c0
    rw [show (1 : Int32) = iI ((1 : Nat) : Int) from by decide, e _ (by omega)] at c1
    rw [show (2 : Int32) = iI ((2 : Nat) : Int) from by decide, e _ (by omega)] at c2
    rw [show (3 : Int32) = iI ((3 : Nat) : Int) from by decide, e _ (by omega)] at c3
    rw [show (4 : Int32) = iI ((4 : Nat) : Int) from by decide, e _ (by omega)] at c4
    rw [show (5 : Int32) = iI ((5 : Nat) : Int) from by decide, e _ (by omega)] at c5
    obtain ⟨m, rfl⟩ : ∃ m, n = m + 6 := ⟨n - 6, by omega⟩
    have e6 : iI ((m + 6 : Nat) : Int) - 6 = iI (m : Int) := by
      rw [show (6 : Int32) = iI 6 from by decide, iI_sub]; congr 1; omega
    have hx : (iI (m : Int)).toNatClampNeg = m := by rw [iI_ix ⟨by omega, by omega⟩]; rfl
    refine ⟨by rw [e6]; exact iI_in (by omega) (by omega) (by omega), ?_⟩
    rw [e6, hx]
    exact k
end SMALL
