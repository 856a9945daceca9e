section KEEP
variable {G : GX} {h : mH} {Q : mO → mH → Prop}
/-- all but some cells are as they were -/
def Ce (S : Nat → Nat → Bool) (h h' : mH) : Prop := h'.1 = h.1 ∧ h'.2.2 = h.2.2 ∧ ∀ o k, S o k = false → gI h' o k = gI h o k
theorem Ce.rf {S : Nat → Nat → Bool} {h : mH} : Ce S h h := ⟨rfl, rfl, fun _ _ _ => rfl⟩
theorem Ce.tr {S : Nat → Nat → Bool} {a b c : mH} (h1 : Ce S a b) (h2 : Ce S b c) : Ce S a c := ⟨h2.1.trans h1.1, h2.2.1.trans h1.2.1, fun o k ho => (h2.2.2 o k ho).trans (h1.2.2 o k ho)⟩
theorem Ce.wk {S T : Nat → Nat → Bool} {h h' : mH} (hs : Ce S h h') (hT : ∀ o k, T o k = false → S o k = false) : Ce T h h' := ⟨hs.1, hs.2.1, fun o k ho => hs.2.2 o k (hT o k ho)⟩
theorem Ce.sm {S : Nat → Nat → Bool} {T : Nat → Bool} {h h' : mH} (hs : Sm T h h') (hT : ∀ o k, S o k = false → T o = false) : Ce S h h' := ⟨hs.1, hs.2.1, fun o k ho => hs.gI (hT o k ho) k⟩
theorem Ce.pI {S : Nat → Nat → Bool} {h h' : mH} (hs : Ce S h h') {o k : Nat} (ho : S o k = true) (v : Int32) : Ce S h (pI h' o k v) := by
  refine ⟨hs.1, hs.2.1, fun q j hq => ?_⟩
  rw [gI_pI, if_neg (fun e => by rw [e.1, e.2, ho] at hq; cases hq)]
  exact hs.2.2 q j hq
theorem Ce.iv {S : Nat → Nat → Bool} {h h' : mH} (hs : Ce S h h') (hi : Iv h) : Iv h' := by
  obtain ⟨e1, e2, -⟩ := hs
  unfold Iv at hi ⊢
  rw [e1, e2]
  exact hi
theorem n_0 : (0 : Int32) = iI ((0 : Nat) : Int) := by decide
theorem n_1 : (1 : Int32) = iI ((1 : Nat) : Int) := by decide
theorem n_2 : (2 : Int32) = iI ((2 : Nat) : Int) := by decide
theorem n_3 : (3 : Int32) = iI ((3 : Nat) : Int) := by decide
theorem n_4 : (4 : Int32) = iI ((4 : Nat) : Int) := by decide
theorem n_5 : (5 : Int32) = iI ((5 : Nat) : Int) := by decide
theorem n_6 : (6 : Int32) = iI ((6 : Nat) : Int) := by decide
theorem n_7 : (7 : Int32) = iI ((7 : Nat) : Int) := by decide
theorem n_8 : (8 : Int32) = iI ((8 : Nat) : Int) := by decide
theorem n_9 : (9 : Int32) = iI ((9 : Nat) : Int) := by decide
theorem n_10 : (10 : Int32) = iI ((10 : Nat) : Int) := by decide
theorem n_12 : (12 : Int32) = iI ((12 : Nat) : Int) := by decide
theorem n_16 : (16 : Int32) = iI ((16 : Nat) : Int) := by decide
theorem n_20 : (20 : Int32) = iI ((20 : Nat) : Int) := by decide
theorem n_24 : (24 : Int32) = iI ((24 : Nat) : Int) := by decide
theorem n_36 : (36 : Int32) = iI ((36 : Nat) : Int) := by decide
theorem n_40 : (40 : Int32) = iI ((40 : Nat) : Int) := by decide
theorem n_60 : (60 : Int32) = iI ((60 : Nat) : Int) := by decide
theorem n_90 : (90 : Int32) = iI ((90 : Nat) : Int) := by decide
theorem n_99 : (99 : Int32) = iI ((99 : Nat) : Int) := by decide
theorem n_100 : (100 : Int32) = iI ((100 : Nat) : Int) := by decide
theorem n_200 : (200 : Int32) = iI ((200 : Nat) : Int) := by decide
theorem n_255 : (255 : Int32) = iI ((255 : Nat) : Int) := by decide
theorem n_364 : (364 : Int32) = iI ((364 : Nat) : Int) := by decide
theorem n_400 : (400 : Int32) = iI ((400 : Nat) : Int) := by decide
theorem n_729 : (729 : Int32) = iI ((729 : Nat) : Int) := by decide
theorem n_999 : (999 : Int32) = iI ((999 : Nat) : Int) := by decide
theorem n_1000 : (1000 : Int32) = iI ((1000 : Nat) : Int) := by decide
theorem n_5040 : (5040 : Int32) = iI ((5040 : Nat) : Int) := by decide
theorem n_9999 : (9999 : Int32) = iI ((9999 : Nat) : Int) := by decide
theorem n_10000 : (10000 : Int32) = iI ((10000 : Nat) : Int) := by decide
theorem n_1000000 : (1000000 : Int32) = iI ((1000000 : Nat) : Int) := by decide
theorem ix_n {n : Nat} (hn : n ≤ 2147483647) : (iI (n : Int)).toNatClampNeg = n := by rw [iI_ix ⟨by omega, by omega⟩]; rfl
theorem in_n {n m : Nat} (h1 : n < m) (hm : m ≤ 2147483647) : vp_in (iI (n : Int)) m := iI_in (by omega) (by omega) hm
theorem ad_n (a b : Nat) : iI (a : Int) + iI (b : Int) = iI ((a + b : Nat) : Int) := by rw [iI_add]; congr 1
theorem mu_n (a b : Nat) : iI (a : Int) * iI (b : Int) = iI ((a * b : Nat) : Int) := by rw [iI_mul]; congr 1
theorem su_n {a b : Nat} (hb : b ≤ a) : iI (a : Int) - iI (b : Int) = iI ((a - b : Nat) : Int) := by rw [iI_sub]; congr 1; omega
theorem le_n {a b : Nat} (ha : a ≤ 2147483647) (hb : b ≤ 2147483647) : iI (a : Int) ≤ iI (b : Int) ↔ a ≤ b := by rw [iI_le ⟨by omega, by omega⟩ ⟨by omega, by omega⟩]; omega
theorem lt_n {a b : Nat} (ha : a ≤ 2147483647) (hb : b ≤ 2147483647) : iI (a : Int) < iI (b : Int) ↔ a < b := by rw [iI_lt ⟨by omega, by omega⟩ ⟨by omega, by omega⟩]; omega
theorem eq_n {a b : Nat} (ha : a ≤ 2147483647) (hb : b ≤ 2147483647) : iI (a : Int) = iI (b : Int) ↔ a = b := by rw [iI_eq ⟨by omega, by omega⟩ ⟨by omega, by omega⟩]; omega
theorem i32_ix {v : Int32} : v.toNatClampNeg = v.toInt.toNat := rfl
theorem mX11_set {p w v : Int32} (hi : Iv h) (kN : ¬ (i03 p ∧ i02 w) → Q (.inl (some (.int 0))) (pI (pI h 83 0 0) 83 0 1)) (kR : (i03 p ∧ i02 w) → ¬ (0 ≤ v.toInt ∧ v.toInt ≤ mst w) → Q (.inl (some (.int (-1)))) (pI (pI h 83 0 0) 90 1 (gI h 90 1 + 1)))
    (k : (i03 p ∧ i02 w) → (0 ≤ v.toInt ∧ v.toInt ≤ mst w) → Q (.inl (some (.int (gI h 87 (4 * w.toInt.toNat + p.toInt.toNat))))) (pI (pI h 83 0 0) 87 (4 * w.toInt.toNat + p.toInt.toNat) v)) : WM G jX11_set [.ref 83, .int p, .int w, .int v] h Q := by
  have hi0 : Iv (pI h 83 0 0) := hi
  have h00 : gI (pI h 83 0 0) 83 0 = 0 := by rw [gI_pI]; rfl
  refine eX11_set hi (mX11_isPendulum hi0 h00 (fun hp => ?_) (fun hp => bX11_set_10 (h := pI (pI h 83 0 0) 83 0 1) hi ⟨fun _ => kN (fun z => hp z.1), fun z => absurd rfl z⟩))
  refine bX11_set_10 hi0 ⟨fun z => absurd z (by decide), fun _ => ?_⟩
  rw [show fX11_within w 0 2 = bI (0 ≤ w.toInt ∧ w.toInt ≤ 2) from within_b (a := 0) (b := 2) ⟨by decide, by decide⟩ ⟨by decide, by decide⟩]
  refine mX11_right hi0 h00 (by decide) (fun hw => ?_) (fun hw => bX11_set_24 (h := pI (pI h 83 0 0) 83 0 1) hi ⟨fun z => absurd rfl z, fun _ => kN (fun z => hw z.2)⟩)
  have hok : i03 p ∧ i02 w := ⟨hp, hw⟩
  have b1 : p.toInt.toNat < 4 := by have := hp.2; omega
  have b2 : w.toInt.toNat < 3 := by have := hw.2; omega
  obtain ⟨x1, x2, x3⟩ := px_iI b1 b2
  have hpw : (4 : Int32) * w + p = iI ((4 * w.toInt.toNat + p.toInt.toNat : Nat) : Int) := by
    rw [← x1, ← i32_nat hp.1, ← i32_nat hw.1]
  have r : ∀ j, gI (pI h 83 0 0) 87 j = gI h 87 j := fun j => by rw [gI_pI, if_neg (by omega)]
  have r9 : gI (pI h 83 0 0) 90 1 = gI h 90 1 := by rw [gI_pI, if_neg (by omega)]
  have no : ¬ (0 ≤ v.toInt ∧ v.toInt ≤ mst w) → WM G jX11_refuses [.ref 83, .int 1] (pI h 83 0 0) (Aft G jX11_set 60 [none, none, none, none, none] [] Q) := fun z => by
    rw [show (1 : Int32) = iI ((1 : Nat) : Int) from by decide]
    refine mX11_refuses hi0 (by omega) ?_
    rw [r9]
    exact bX11_set_63 (h := pI (pI h 83 0 0) 90 1 (gI h 90 1 + 1)) hi (kR hok z)
  have yes : (0 ≤ v.toInt ∧ v.toInt ≤ mst w) → (vp_in ((4 * w) + p) 12 ∧ (vp_in ((4 * w) + p) 12 ∧ Q (.inl (some (.int (gI (pI h 83 0 0) 87 (Int32.toNatClampNeg ((4 * w) + p)))))) (pI (pI h 83 0 0) 87 (Int32.toNatClampNeg ((4 * w) + p)) v))) := fun z => by
    rw [hpw, x2, r]
    exact ⟨x3, x3, k hok z⟩
  refine bX11_set_24 hi0 ⟨fun _ => ⟨fun c0 => ⟨fun c1 => ?_, fun c1 => ?_⟩, fun c0 => ?_⟩, fun z => absurd z (by decide)⟩
  · have e : mst w = 90 := by unfold mst; rw [if_neg c0, if_neg c1]
    rw [e] at no yes
    have hz := within_0 (v := v) (a := 0) (b := 90) ⟨by decide, by decide⟩ ⟨by decide, by decide⟩
    exact ⟨fun c => yes (Decidable.not_not.mp (fun z => c (hz.mpr z))), fun c => no (hz.mp c)⟩
  · have e : mst w = 99 := by unfold mst; rw [if_neg c0, if_pos c1]
    rw [e] at no yes
    have hz := within_0 (v := v) (a := 0) (b := 99) ⟨by decide, by decide⟩ ⟨by decide, by decide⟩
    exact ⟨fun c => yes (Decidable.not_not.mp (fun z => c (hz.mpr z))), fun c => no (hz.mp c)⟩
  · have e : mst w = 9 := by unfold mst; rw [if_pos c0]
    rw [e] at no yes
    have hz := within_0 (v := v) (a := 0) (b := 9) ⟨by decide, by decide⟩ ⟨by decide, by decide⟩
    exact ⟨fun c => yes (Decidable.not_not.mp (fun z => c (hz.mpr z))), fun c => no (hz.mp c)⟩
/-- keep() -/
theorem mX10_keep {n : Nat} (hi : Iv h) (hn : gI h 33 1 = iI n) (h8 : n ≤ 8) (kR : n = 8 → Q (.inl (some (.int (-1)))) (pI h 82 2 (gI h 82 2 + 1))) (k : n < 8 → Q (.inl (some (.int (iI n)))) (pI (pA h 35 (va_cpy (gI h 7) (gI h 35) 0 (12 * n) 12)) 33 1 (iI ((n + 1 : Nat) : Int)))) : WM G jX10_keep [.ref 0] h Q := by
  have e1 : (12 : Int32) * iI (n : Int) = iI ((12 * n : Nat) : Int) := by rw [n_12, mu_n]
  have e2 : iI (n : Int) + 1 = iI ((n + 1 : Nat) : Int) := by rw [n_1, ad_n]
  refine eX10_keep hi ?_
  rw [hn, e1, e2, ix_n (by omega)]
  refine ⟨fun c => ?_, fun c => ?_⟩
  · rw [n_8, lt_n (by omega) (by omega)] at c
    exact ⟨by rw [iI_ge0 ⟨by omega, by omega⟩]; omega, by omega, k c⟩
  · rw [n_8, lt_n (by omega) (by omega)] at c
    rw [show (2 : Int32) = iI ((2 : Nat) : Int) from by decide]
    exact mX10_refuse hi (by omega) (bX10_keep_17 (h := pI h 82 2 (gI h 82 2 + 1)) hi (kR (by omega)))
theorem mkeep_loop {n : Nat} (h8 : n < 8) : ∀ (d i : Nat) (h : mH), i + d = 12 → Iv h → gI h 83 30 = iI n → (∀ h', Sm (fun o => o == 97) h h' → (∀ k, gI h' 97 k = if 12 * n + i ≤ k ∧ k < 12 * n + 12 then gI h 87 (k - 12 * n) else gI h 97 k) → Q (.inl (some (.int (iI n)))) (pI h' 83 30 (iI ((n + 1 : Nat) : Int)))) →
    Vw G jX11_keep 22 [some (.ref 83), some (.int (iI i))] [] h Q
  | 0, i, h, e, hi, hn, k => by
    have : i = 12 := by omega
    subst this
    have e2 : iI (n : Int) + 1 = iI ((n + 1 : Nat) : Int) := by rw [n_1, ad_n]
    refine bX11_keep_22 hi ⟨fun _ => ?_, fun c => absurd (by decide) c⟩
    rw [hn, e2, gI_pI, if_pos ⟨rfl, rfl⟩, n_1, su_n (by omega), Nat.add_sub_cancel]
    refine k h Sm.rf (fun j => ?_)
    rw [if_neg (by omega)]
  | d + 1, i, h, e, hi, hn, k => by
    have e1 : (12 : Int32) * iI (n : Int) + iI (i : Int) = iI ((12 * n + i : Nat) : Int) := by rw [n_12, mu_n, ad_n]
    have e2 : iI (i : Int) + 1 = iI ((i + 1 : Nat) : Int) := by rw [n_1, ad_n]
    refine bX11_keep_22 hi ⟨fun c => ?_, fun _ => ?_⟩
    · rw [n_12, le_n (by omega) (by omega)] at c
      omega
    · rw [hn, e1, e2, ix_n (by omega), ix_n (by omega)]
      refine ⟨in_n (by omega) (by omega), in_n (by omega) (by omega), mkeep_loop h8 d (i + 1) _ (by omega) (show Iv h from hi) (by rw [gI_pI, if_neg (by omega)]; exact hn) (fun h' hS h1 => k h' ?_ (fun j => ?_))⟩
      · exact (Sm.pI Sm.rf (by simp) _ _).tr hS
      · rw [h1 j]
        by_cases hj : j = 12 * n + i
        · subst hj
          rw [if_neg (by omega), if_pos (by omega), gI_pI, if_pos ⟨rfl, rfl⟩]
          congr 1; omega
        · by_cases hc : 12 * n + (i + 1) ≤ j ∧ j < 12 * n + 12
          · rw [if_pos hc, if_pos (by omega), gI_pI, if_neg (by omega)]
          · rw [if_neg hc, if_neg (by omega), gI_pI, if_neg (by omega)]
theorem mX11_keep {n : Nat} (hi : Iv h) (hn : gI h 83 30 = iI n) (h8 : n ≤ 8) (kR : n = 8 → Q (.inl (some (.int (-1)))) (pI (pI h 83 0 0) 90 2 (gI h 90 2 + 1))) (k : n < 8 → ∀ h', Sm (fun o => o == 97) (pI h 83 0 0) h' → (∀ k, gI h' 97 k = if 12 * n ≤ k ∧ k < 12 * n + 12 then gI h 87 (k - 12 * n) else gI h 97 k) → Q (.inl (some (.int (iI n)))) (pI h' 83 30 (iI ((n + 1 : Nat) : Int)))) : WM G jX11_keep [.ref 83] h Q := by
  have hi0 : Iv (pI h 83 0 0) := hi
  have hn0 : gI (pI h 83 0 0) 83 30 = iI n := by rw [gI_pI, if_neg (by omega)]; exact hn
  refine eX11_keep hi ⟨fun c => ?_, fun c => ?_⟩
  · rw [hn0, n_8, eq_n (by omega) (by omega)] at c
    rw [n_0]
    refine mkeep_loop (n := n) (by omega) 12 0 _ (by omega) hi0 hn0 (fun h' hS h1 => k (by omega) h' hS (fun j => ?_))
    rw [h1 j, Nat.add_zero]
    congr 1 <;> rw [gI_pI, if_neg (by omega)]
  · rw [hn0, n_8, eq_n (by omega) (by omega)] at c
    rw [show (2 : Int32) = iI ((2 : Nat) : Int) from by decide]
    refine mX11_refuses hi0 (by omega) ?_
    rw [show gI (pI h 83 0 0) 90 2 = gI h 90 2 from by rw [gI_pI, if_neg (by omega)]]
    exact bX11_keep_19 (h := pI (pI h 83 0 0) 90 2 (gI h 90 2 + 1)) hi (kR c)
/-- take(p) -/
theorem mX10_take {v : Int32} (hi : Iv h) (h8 : (gI h 33 1).toInt ≤ 8) (kN : ¬ pk h v → Th eN h Q) (k : pk h v → ∀ h', Sm (fun o => o == 7) h h' → (∀ k, k < 12 → gI h' 7 k = gI h 35 (12 * v.toInt.toNat + k)) → Q (.inl none) (pI h' 0 16 (gI h 0 16 + 1))) : WM G jX10_take [.ref 0, .int v] h Q := by
  refine eX10_take hi (mX10_needPortrait hi (fun p1 p2 => ?_) kN)
  refine bX10_take_5 hi ?_
  have k' := k ⟨p1, p2⟩
  have b8 : v.toInt.toNat < 8 := by omega
  rw [i32_nat p1]
  refine mX10_takeInto (r := 3) hi rfl b8 (fun h' hS h1 => bX10_take_14 (hS.iv hi) ?_)
  rw [hS.gI (o := 0) rfl]
  exact k' h' hS h1
theorem mtake_loop {n : Nat} (h8 : n < 8) : ∀ (d i : Nat) (h : mH), i + d = 12 → Iv h → (∀ h', Sm (fun o => o == 87) h h' → (∀ k, k < 12 → gI h' 87 k = if i ≤ k then gI h 97 (12 * n + k) else gI h 87 k) → Q (.inl none) h') →
    Vw G jX11_take 16 [some (.ref 83), some (.int (iI n)), some (.int (iI i))] [] h Q
  | 0, i, h, e, hi, k => by
    have : i = 12 := by omega
    subst this
    refine bX11_take_16 hi ⟨fun _ => k h Sm.rf (fun j hj => ?_), fun c => absurd (by decide) c⟩
    rw [if_neg (by omega)]
  | d + 1, i, h, e, hi, k => by
    have e1 : (12 : Int32) * iI (n : Int) + iI (i : Int) = iI ((12 * n + i : Nat) : Int) := by rw [n_12, mu_n, ad_n]
    have e2 : iI (i : Int) + 1 = iI ((i + 1 : Nat) : Int) := by rw [n_1, ad_n]
    refine bX11_take_16 hi ⟨fun c => ?_, fun _ => ?_⟩
    · rw [n_12, le_n (by omega) (by omega)] at c
      omega
    · rw [e1, e2, ix_n (by omega), ix_n (by omega)]
      refine ⟨in_n (by omega) (by omega), in_n (by omega) (by omega), mtake_loop h8 d (i + 1) _ (by omega) (show Iv h from hi) (fun h' hS h1 => k h' ?_ (fun j hj => ?_))⟩
      · exact (Sm.pI Sm.rf (by simp) _ _).tr hS
      · rw [h1 j hj]
        by_cases hji : j = i
        · subst hji
          rw [if_neg (by omega), if_pos (by omega), gI_pI, if_pos ⟨rfl, rfl⟩]
        · by_cases hc : i + 1 ≤ j
          · rw [if_pos hc, if_pos (by omega), gI_pI, if_neg (by omega)]
          · rw [if_neg hc, if_neg (by omega), gI_pI, if_neg (by omega)]
theorem mX11_take {v : Int32} (hi : Iv h) (h8 : (gI h 83 30).toInt ≤ 8) (kN : ¬ pkM h v → Q (.inl none) (pI (pI h 83 0 0) 83 0 1)) (k : pkM h v → ∀ h', Sm (fun o => o == 87) (pI h 83 0 0) h' → (∀ k, k < 12 → gI h' 87 k = gI h 97 (12 * v.toInt.toNat + k)) → Q (.inl none) h') : WM G jX11_take [.ref 83, .int v] h Q := by
  have hi0 : Iv (pI h 83 0 0) := hi
  have h00 : gI (pI h 83 0 0) 83 0 = 0 := by rw [gI_pI]; rfl
  have e30 : gI (pI h 83 0 0) 83 30 = gI h 83 30 := by rw [gI_pI, if_neg (by omega)]
  refine eX11_take hi (mX11_isPortrait hi0 h00 (fun hp => ?_) (fun hp => bX11_take_10 (h := pI (pI h 83 0 0) 83 0 1) hi ⟨fun z => absurd rfl z, fun _ => kN (fun z => hp (by rw [e30]; exact z))⟩))
  rw [e30] at hp
  refine bX11_take_10 hi0 ⟨fun _ => ?_, fun z => absurd z (by decide)⟩
  have k' := k hp
  obtain ⟨p1, p2⟩ := hp
  have b8 : v.toInt.toNat < 8 := by omega
  rw [i32_nat p1, n_0]
  refine mtake_loop b8 12 0 _ (by omega) hi0 (fun h' hS h1 => k' h' hS (fun j hj => ?_))
  rw [h1 j hj, if_pos (by omega), gI_pI, if_neg (by omega)]
end KEEP
