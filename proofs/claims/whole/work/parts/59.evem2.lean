section EVEM2
variable {G : GX} {h : mH} {Q : mO → mH → Prop}
theorem lt1_iI {x : Int} (h1 : -2 ≤ x) (h2 : x ≤ 100) : iI x < 0 ↔ x < 0 := by rw [i32_0, iI_lt ⟨by omega, by omega⟩ ⟨by decide, by decide⟩]
theorem mX11_countsUp {S n : Nat} {f : Nat → Nat} (hi : Iv h) (hn8 : n ≤ 8) (hn0 : 0 < n) (hf : pm S n f) (hr : ∀ i, i < n → gI h 102 i = iI (f i : Nat)) (k0 : (∀ i, i + 1 < n → f (i + 1) < f i) → Q (.inl (some (.int 0))) h)
    (k1 : ∀ g f', Sm (fun o => o == 102) h g → pm S n f' → (∀ i, i < n → gI g 102 i = iI (f' i : Nat)) → llt n f f' → (∀ m, pm S n m → llt n f m → (∀ i, i < n → f' i = m i) ∨ llt n f' m) → Q (.inl (some (.int 1))) g) : WM G jX11_countsUp [.ref 83, .int (iI n)] h Q := by
  have b8 : ∀ i, i < n → f i < 8 := fun i hi => (hf.1 i hi).1
  refine eX11_countsUp hi ?_
  have en2 : iI (n : Int) - 2 = iI (((n - 1 : Nat) : Int) - 1) := by rw [show (2 : Int32) = iI 2 from by decide, iI_sub]; congr 1; omega
  rw [en2]
  -- the search of k
  have L1 : ∀ c, c + 1 ≤ n → (∀ i, c ≤ i → i + 1 < n → f (i + 1) < f i) → Vw G jX11_countsUp 4 [some (.ref 83), some (.int (iI n)), some (.int (iI ((c : Int) - 1))), none, none, none, none, none] [] h Q := by
    intro c
    induction c with
    | zero =>
      intro _ hd
      refine bX11_countsUp_4 hi ⟨fun _ => bX11_countsUp_31 hi ⟨fun z => absurd z (by decide), fun _ => k0 (fun i hi => hd i (Nat.zero_le _) hi)⟩, fun z => absurd (by decide) z⟩
    | succ k ih =>
      intro hk hd
      have ek : (((k + 1 : Nat) : Int) - 1) = (k : Int) := by omega
      have e1 : iI (k : Int) + 1 = iI ((k + 1 : Nat) : Int) := by rw [n_1, ad_n]
      have em : iI (k : Int) + (-1) = iI ((k : Int) - 1) := by rw [m1_iI, iI_add]; rfl
      rw [ek]
      have b1 := b8 k (by omega)
      have b2 := b8 (k + 1) (by omega)
      refine bX11_countsUp_4 hi ⟨fun z => ?_, fun _ => ?_⟩
      · rw [lt1_iI (by omega) (by omega)] at z
        omega
      · rw [e1, ix_n (by omega), ix_n (by omega), hr k (by omega), hr (k + 1) (by omega), em]
        refine ⟨in_n (by omega) (by omega), in_n (by omega) (by omega), fun z => ?_, fun z => ?_⟩
        · rw [le_n (by omega) (by omega)] at z
          have hlt : f k < f (k + 1) := by
            refine Nat.lt_of_le_of_ne z (fun w => ?_)
            have := hf.2.1 k (k + 1) (by omega) (by omega) w
            omega
          have hdp := dsc_pair (c := k + 1) hd
          refine bX11_countsUp_31 hi ⟨fun _ => ?_, fun y => absurd ?_ y⟩
          · rw [n_1, su_n (by omega)]
            -- the search of j
            have L2 : ∀ j, k + 1 ≤ j → j < n → (∀ i, j < i → i < n → f i < f k) → Vw G jX11_countsUp 41 [some (.ref 83), some (.int (iI n)), some (.int (iI k)), some (.int (iI j)), none, none, none, none] [] h Q := by
              intro j
              induction j with
              | zero => intro hj; omega
              | succ j ihj =>
                intro hj hjn hb
                have emj : iI ((j + 1 : Nat) : Int) + (-1) = iI (j : Int) := by rw [m1_iI, iI_add]; congr 1; omega
                have b3 := b8 (j + 1) hjn
                refine bX11_countsUp_41 hi ?_
                rw [ix_n (by omega), ix_n (by omega), hr k (by omega), hr (j + 1) hjn, emj]
                refine ⟨in_n (by omega) (by omega), in_n (by omega) (by omega), fun y => ⟨in_n (by omega) (by omega), in_n (by omega) (by omega), in_n (by omega) (by omega), in_n (by omega) (by omega), ?_⟩, fun y => ?_⟩
                · rw [le_n (by omega) (by omega)] at y
                  have hkj : f k < f (j + 1) := by
                    refine Nat.lt_of_le_of_ne y (fun w => ?_)
                    have := hf.2.1 k (j + 1) (by omega) hjn w
                    omega
                  have hNP : NP n f k (j + 1) := ⟨hkj, hdp, by omega, hjn, hb⟩
                  rw [e1, n_1, su_n (by omega)]
                  generalize hg1 : pI (pI h 102 k (iI (f (j + 1) : Nat))) 102 (j + 1) (iI (f k : Nat)) = g1
                  have S1 : Sm (fun o => o == 102) h g1 := by rw [← hg1]; exact (Sm.rf.pI rfl _ _).pI rfl _ _
                  have q1 : ∀ i, i < n → gI g1 102 i = iI (nxQ f k (j + 1) i : Nat) := fun i hi => by
                    rw [← hg1, gI_pI]
                    unfold nxQ
                    by_cases c1 : i = j + 1
                    · subst c1
                      rw [if_pos ⟨rfl, rfl⟩, if_neg (by omega), if_pos rfl]
                    · rw [if_neg (by omega), gI_pI]
                      by_cases c2 : i = k
                      · subst c2
                        rw [if_pos ⟨rfl, rfl⟩, if_pos rfl]
                      · rw [if_neg (by omega), if_neg c2, if_neg c1]
                        exact hr i hi
                  clear hg1
                  -- the turning round
                  have L3 : ∀ (d a b : Nat) (g : mH), a + b = n + k → k + 1 ≤ a → b < n → b ≤ a + d → Sm (fun o => o == 102) h g → (∀ i, i < n → gI g 102 i = iI ((if i ≤ k then nxQ f k (j + 1) i else if i < a ∨ b < i then nxQ f k (j + 1) (n + k - i) else nxQ f k (j + 1) i : Nat) : Int)) → Vw G jX11_countsUp 100 [some (.ref 83), none, none, none, none, some (.int (iI a)), some (.int (iI b)), none] [] g Q := by
                    have done : ∀ (a b : Nat) (g : mH), a + b = n + k → k + 1 ≤ a → b < n → b ≤ a → Sm (fun o => o == 102) h g → (∀ i, i < n → gI g 102 i = iI ((if i ≤ k then nxQ f k (j + 1) i else if i < a ∨ b < i then nxQ f k (j + 1) (n + k - i) else nxQ f k (j + 1) i : Nat) : Int)) → Vw G jX11_countsUp 100 [some (.ref 83), none, none, none, none, some (.int (iI a)), some (.int (iI b)), none] [] g Q := by
                      intro a b g hab ha hbn hd hg hq
                      refine bX11_countsUp_100 (hg.iv hi) ⟨fun _ => k1 g (nxP n f k (j + 1)) hg (nx_pm hf hNP) (fun i hi => ?_) (nx_lt hNP) (fun m hm hl => nx_next hf hNP hm hl), fun w => absurd ?_ w⟩
                      · rw [hq i hi]
                        unfold nxP
                        congr 2
                        by_cases c1 : i ≤ k
                        · rw [if_pos c1, if_pos c1]
                        · rw [if_neg c1, if_neg c1]
                          by_cases c2 : i < a ∨ b < i
                          · rw [if_pos c2]
                          · rw [if_neg c2, show n + k - i = i from by omega]
                      · rw [le_n (by omega) (by omega)]; omega
                    intro d
                    induction d with
                    | zero =>
                      intro a b g hab ha hbn hd hg hq
                      exact done a b g hab ha hbn hd hg hq
                    | succ d ihd =>
                      intro a b g hab ha hbn hd hg hq
                      by_cases c : b ≤ a
                      · exact done a b g hab ha hbn c hg hq
                      · have ea : iI (a : Int) + 1 = iI ((a + 1 : Nat) : Int) := by rw [n_1, ad_n]
                        have eb : iI (b : Int) + (-1) = iI ((b - 1 : Nat) : Int) := by rw [m1_iI, iI_add]; congr 1; omega
                        refine bX11_countsUp_100 (hg.iv hi) ⟨fun w => ?_, fun _ => ?_⟩
                        · rw [le_n (by omega) (by omega)] at w
                          exact absurd w c
                        · rw [ix_n (by omega), ix_n (by omega), ea, eb]
                          refine ⟨in_n (by omega) (by omega), in_n (by omega) (by omega), in_n (by omega) (by omega), in_n (by omega) (by omega), ihd (a + 1) (b - 1) _ (by omega) (by omega) (by omega) (by omega) ((hg.pI rfl _ _).pI rfl _ _) (fun i hi => ?_)⟩
                          rw [gI_pI]
                          by_cases c1 : i = b
                          · subst c1
                            rw [if_pos ⟨rfl, rfl⟩, hq a (by omega), if_neg (by omega), if_neg (by omega), if_neg (by omega), if_pos (by omega), show n + k - i = a from by omega]
                          · rw [if_neg (by omega), gI_pI]
                            by_cases c2 : i = a
                            · subst c2
                              rw [if_pos ⟨rfl, rfl⟩, hq b (by omega), if_neg (by omega), if_neg (by omega), if_neg (by omega), if_pos (by omega), show n + k - i = b from by omega]
                            · rw [if_neg (by omega), hq i hi]
                              congr 2
                              by_cases c3 : i ≤ k
                              · rw [if_pos c3, if_pos c3]
                              · rw [if_neg c3, if_neg c3]
                                by_cases c4 : i < a ∨ b < i
                                · rw [if_pos c4, if_pos (by omega)]
                                · rw [if_neg c4, if_neg (by omega)]
                  refine L3 n (k + 1) (n - 1) g1 (by omega) (by omega) (by omega) (by omega) S1 (fun i hi => ?_)
                  rw [q1 i hi]
                  congr 2
                  by_cases c1 : i ≤ k
                  · rw [if_pos c1]
                  · rw [if_neg c1, if_neg (by omega)]
                · rw [le_n (by omega) (by omega)] at y
                  have hjk : j ≠ k := fun w => by
                    subst w
                    omega
                  refine ihj (by omega) (by omega) (fun i hi hin => ?_)
                  by_cases c1 : i = j + 1
                  · subst c1; omega
                  · exact hb i (by omega) hin
            exact L2 (n - 1) (by omega) (by omega) (fun i hi hin => by omega)
          · rw [i32_0, iI_le ⟨by decide, by decide⟩ ⟨by omega, by omega⟩]; omega
        · rw [le_n (by omega) (by omega)] at z
          refine ih (by omega) (fun i hi hin => ?_)
          by_cases c1 : i = k
          · subst c1; omega
          · exact hd i (by omega) hin
  exact L1 (n - 1) (by omega) (fun i hi hin => by omega)
end EVEM2
