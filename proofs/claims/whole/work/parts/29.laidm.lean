section LAIDM
variable {G : GX} {h : mH} {Q : mO → mH → Prop}
def ceP (h : mH) (f t : Nat) : Nat := (ceI (swM h 97 f 0 t) (swM h 97 f 1 t)).toNat
theorem ceP_b {f t : Nat} (hm : MR h 97 f) : ceP h f t ≤ 728 ∧ fX11_cellOf (iI (swM h 97 f 0 t)) (iI (swM h 97 f 1 t)) = iI (ceP h f t : Nat) := by
  have b0 := swM_b (t := t) hm (show 0 < 2 by omega)
  have b1 := swM_b (t := t) hm (show 1 < 2 by omega)
  have := ceI_b (al := swM h 97 f 0 t) (ac := swM h 97 f 1 t) (by omega) (by omega) (by omega) (by omega)
  rw [cellOfM_iI (by omega) (by omega) (by omega) (by omega)]
  unfold ceP
  exact ⟨by omega, by congr 1; omega⟩
theorem sc2.cp {h h' : mH} (hs : sc2 h h') (f t : Nat) : ceP h' f t = ceP h f t := by
  unfold ceP
  rw [swM_cg hs.1 rfl rfl rfl rfl, swM_cg hs.1 rfl rfl rfl rfl]
def pkM (h : mH) (v : Int32) : Prop := 0 ≤ v.toInt ∧ v.toInt < (gI h 83 30).toInt
theorem bits1 (b1 b2 : Bool) : bits b1 b2 ||| 1 = bits true b2 := by cases b1 <;> cases b2 <;> decide
theorem bits2 (b1 b2 : Bool) : bits b1 b2 ||| 2 = bits b1 true := by cases b1 <;> cases b2 <;> decide
theorem mX11_laid {p q a b w : Int32} (hi : Iv h) (h8 : (gI h 83 30).toInt ≤ 8) (hr : ∀ i : Nat, (i : Int) < (gI h 83 30).toInt → MR h 97 (12 * i))
    (kN : ¬ (pkM h p ∧ pkM h q ∧ (0 ≤ w.toInt ∧ w.toInt ≤ 2)) → Q (.inl (some (.int 0))) (pI (pI h 83 0 0) 83 0 1)) (kI : (pkM h p ∧ pkM h q ∧ (0 ≤ w.toInt ∧ w.toInt ≤ 2)) → ¬ spn a b → Q (.inl (some (.int 0))) (pI (pI h 83 0 0) 83 0 2))
    (k : ∀ h', (pkM h p ∧ pkM h q ∧ (0 ≤ w.toInt ∧ w.toInt ≤ 2)) → spn a b → sc2 h h' → gI h' 83 0 = 0 → Q (.inl (some (.int (iI (laV (ceP h (12 * p.toInt.toNat)) (ceP h (12 * q.toInt.toNat)) a b w : Nat))))) h') : WM G jX11_laid [.ref 83, .int p, .int q, .int a, .int b, .int w] h Q := by
  have hs0 := (sc2.rf (h := h)).th 0
  have hi0 : Iv (pI h 83 0 0) := hi
  have h00 : gI (pI h 83 0 0) 83 0 = 0 := by rw [gI_pI]; rfl
  have n1 : ∀ v, gI (pI h 83 0 0) 83 30 = v → gI h 83 30 = v := fun v e => by rw [gI_pI, if_neg (by omega)] at e; exact e
  have n0 : gI (pI h 83 0 0) 83 30 = gI h 83 30 := by rw [gI_pI, if_neg (by omega)]
  refine eX11_laid hi (mX11_isPortrait hi0 h00 (fun z1 => ?_) (fun z => bX11_laid_10 (h := pI (pI h 83 0 0) 83 0 1) hi ⟨fun _ => kN (fun y => z (by rw [n0]; exact y.1)), fun c => absurd rfl c⟩))
  rw [n0] at z1
  refine bX11_laid_10 hi0 ⟨fun c => absurd c (by decide), fun _ => mX11_isPortrait hi0 h00 (fun z2 => ?_) (fun z => bX11_laid_18 (h := pI (pI h 83 0 0) 83 0 1) hi ⟨fun _ => kN (fun y => z (by rw [n0]; exact y.2.1)), fun c => absurd rfl c⟩)⟩
  rw [n0] at z2
  refine bX11_laid_18 hi0 ⟨fun c => absurd c (by decide), fun _ => ?_⟩
  rw [show fX11_within w 0 2 = bI (0 ≤ w.toInt ∧ w.toInt ≤ 2) from within_b (a := 0) (b := 2) ⟨by decide, by decide⟩ ⟨by decide, by decide⟩]
  refine mX11_right hi0 h00 (by decide) (fun hw => ?_) (fun hw => bX11_laid_33 (h := pI (pI h 83 0 0) 83 0 1) hi ⟨fun _ => kN (fun y => hw y.2.2), fun c => absurd rfl c⟩)
  have hok : pkM h p ∧ pkM h q ∧ (0 ≤ w.toInt ∧ w.toInt ≤ 2) := ⟨z1, z2, hw⟩
  refine bX11_laid_33 hi0 ⟨fun c => absurd c (by decide), fun _ => mX11_isSpan hi0 h00 (by decide) (fun hs => ?_) (fun hs => bX11_laid_44 (h := pI (pI h 83 0 0) 83 0 2) hi ⟨fun c => absurd rfl c, fun _ => kI hok hs⟩)⟩
  refine bX11_laid_44 hi0 ⟨fun _ => mX11_clears hi0 (fun h1 hs1 h10 h1z => ?_), fun c => absurd c (by decide)⟩
  have hs01 := hs0.tr hs1
  refine bX11_laid_53 (hs01.1.iv hi) ?_
  have k' := fun h' => k h' hok hs
  unfold laV at k'
  obtain ⟨lo, n, ea, eb, l1, l2, e3, e4⟩ := spn_n hs
  rw [← e3, ← e4] at k'
  have ep := i32_nat z1.1
  have eq := i32_nat z2.1
  have bp8 : p.toInt.toNat < 8 := by have := z1.2; omega
  have bq8 : q.toInt.toNat < 8 := by have := z2.2; omega
  have hr1 := hr p.toInt.toNat (by have := z1.1; have := z1.2; omega)
  have hr2 := hr q.toInt.toNat (by have := z2.1; have := z2.2; omega)
  generalize hpi : p.toInt.toNat = pi at *
  generalize hqi : q.toInt.toNat = qi at *
  rw [ep, eq, ea, eb]
  have e12 : ∀ i : Nat, (12 : Int32) * iI (i : Int) = iI ((12 * i : Nat) : Int) := fun i => by rw [show (12 : Int32) = iI 12 from by decide, iI_mul]; congr 1
  have loop : ∀ m i : Nat, i + m = n + 1 → ∀ h2, sc2 h h2 → gI h2 83 0 = 0 → (∀ x, x < 729 → gI h2 96 x = bits (hit (ceP h (12 * pi)) lo i x) (hit (ceP h (12 * qi)) lo i x)) → Vw G jX11_laid 56 [some (.ref 83), some (.int (iI pi)), some (.int (iI qi)), none, some (.int (iI ((lo + n : Nat) : Int))), some (.int w), some (.int (iI ((lo + i : Nat) : Int))), none] [] h2 Q := by
    intro m
    induction m with
    | zero =>
      intro i him h2 hs2 h20 hx
      have : i = n + 1 := by omega
      subst this
      have hi2 := hs2.1.iv hi
      refine bX11_laid_56 hi2 ⟨fun _ => ?_, fun z => absurd ?_ z⟩
      · have fin := k' h2 hs2 h20
        obtain ⟨e, hee⟩ : ∃ e, e = (if w = 0 then 3 else w) := ⟨_, rfl⟩
        rw [← hee] at fin
        have hcg : cnt (fun x => bits (hit (ceP h (12 * pi)) lo (n + 1) x) (hit (ceP h (12 * qi)) lo (n + 1) x) == e) 729 = cnt (fun x => gI h2 96 x == e) 729 := cnt_cg 729 (fun x hx7 => by rw [hx x hx7])
        rw [hcg] at fin
        have cl : ∀ m j : Nat, j + m = 729 → Vw G jX11_laid 159 [some (.ref 83), none, none, none, none, some (.int w), some (.int (iI (cnt (fun x => gI h2 96 x == e) j : Nat))), some (.int (iI j))] [] h2 Q := by
          intro m
          induction m with
          | zero =>
            intro j hj
            have : j = 729 := by omega
            subst this
            exact bX11_laid_159 hi2 ⟨fun _ => fin, fun c => absurd (by decide) c⟩
          | succ m ih2 =>
            intro j hj
            have hjx : (iI (j : Int)).toNatClampNeg = j := by rw [iI_ix ⟨by omega, by omega⟩]; rfl
            have e1 : iI (j : Int) + 1 = iI ((j + 1 : Nat) : Int) := by rw [iI_lit 1, iI_add]; congr 1
            have nx := ih2 (j + 1) (by omega)
            unfold cnt at nx
            have no : ¬ gI h2 96 j = e → Vw G jX11_laid 159 [some (.ref 83), none, none, none, none, some (.int w), some (.int (iI (cnt (fun x => gI h2 96 x == e) j : Nat) + 0)), some (.int (iI (j : Int) + 1))] [] h2 Q := by
              intro c
              rw [if_neg (by simpa using c), Nat.add_zero] at nx
              rw [e1, i32_0, iI_add, Int.add_zero]
              exact nx
            have ye : gI h2 96 j = e → Vw G jX11_laid 159 [some (.ref 83), none, none, none, none, some (.int w), some (.int (iI (cnt (fun x => gI h2 96 x == e) j : Nat) + 1)), some (.int (iI (j : Int) + 1))] [] h2 Q := by
              intro c
              rw [if_pos (by simpa using c)] at nx
              rw [e1, show iI (cnt (fun x => gI h2 96 x == e) j : Nat) + 1 = iI ((cnt (fun x => gI h2 96 x == e) j + 1 : Nat) : Int) from by rw [iI_lit 1, iI_add]; congr 1]
              exact nx
            refine bX11_laid_159 hi2 ⟨fun c => ?_, fun _ => ⟨iI_in (by omega) (by omega) (by omega), fun c => ?_, fun c => ?_⟩⟩
            · rw [show (729 : Int32) = iI 729 from by decide, iI_le ⟨by decide, by decide⟩ ⟨by omega, by omega⟩] at c
              omega
            · rw [if_neg c] at hee
              rw [hjx]
              exact ⟨fun c2 => no (by rw [hee]; exact c2), fun c2 => ye (by rw [hee]; exact c2)⟩
            · rw [if_pos c] at hee
              rw [hjx, ← hee]
              exact ⟨no, ye⟩
        exact cl 729 0 (by omega)
      · rw [iI_lt ⟨by omega, by omega⟩ ⟨by omega, by omega⟩]
        omega
    | succ m ih =>
      intro i him h2 hs2 h20 hx
      have hi2 := hs2.1.iv hi
      have hm1 := hs2.mr (a := 97) (f := 12 * pi) rfl hr1
      have e1 : iI ((lo + i : Nat) : Int) + 1 = iI ((lo + (i + 1) : Nat) : Int) := by rw [iI_lit 1, iI_add]; congr 1
      refine bX11_laid_56 hi2 ⟨fun z => ?_, fun _ => ?_⟩
      · rw [iI_lt ⟨by omega, by omega⟩ ⟨by omega, by omega⟩] at z
        omega
      rw [e12]
      refine mX11_penOf (ax := 0) hi2 (a := 97) (n := 96) rfl (by omega) (by omega) (by omega) (by omega) hm1 ?_
      refine bX11_laid_82 hi2 ?_
      rw [e12]
      refine mX11_penOf (ax := 1) hi2 (a := 97) (n := 96) rfl (by omega) (by omega) (by omega) (by omega) hm1 ?_
      obtain ⟨hb1, hb2⟩ := ceP_b (t := lo + i) hm1
      rw [hs2.cp] at hb1 hb2
      refine bX11_laid_97 hi2 ?_
      rw [hb2]
      obtain ⟨c, hcc⟩ : ∃ c, c = ceP h (12 * pi) (lo + i) := ⟨_, rfl⟩
      rw [← hcc] at hb1 ⊢
      have hcx : (iI (c : Int)).toNatClampNeg = c := by rw [iI_ix ⟨by omega, by omega⟩]; rfl
      have hv : vp_in (iI (c : Int)) 729 := iI_in (by omega) (by omega) (by omega)
      rw [hcx]
      refine ⟨hv, hv, ?_⟩
      obtain ⟨h3, hh3⟩ : ∃ h3, h3 = pI h2 96 c (gI h2 96 c ||| 1) := ⟨_, rfl⟩
      rw [← hh3]
      have hs3 : sc2 h h3 := by rw [hh3]; exact hs2.mk _ _
      have h30 : gI h3 83 0 = 0 := by rw [hh3, gI_pI, if_neg (by omega)]; exact h20
      have h3x : ∀ x, x < 729 → gI h3 96 x = bits (hit (ceP h (12 * pi)) lo (i + 1) x) (hit (ceP h (12 * qi)) lo i x) := by
        intro x hx7
        have hu : hit (ceP h (12 * pi)) lo (i + 1) x = (hit (ceP h (12 * pi)) lo i x || (c == x)) := by rw [hcc]; rfl
        rw [hu, hh3, gI_pI]
        by_cases hxc : x = c
        · subst hxc
          rw [if_pos ⟨rfl, rfl⟩, hx x hx7, bits1, show (x == x) = true from by simp, Bool.or_true]
        · rw [if_neg (by omega), hx x hx7, show (c == x) = false from by simpa using fun e => hxc e.symm, Bool.or_false]
      have hi3 := hs3.1.iv hi
      have hm2 := hs3.mr (a := 97) (f := 12 * qi) rfl hr2
      rw [e12]
      refine mX11_penOf (ax := 0) hi3 (a := 97) (n := 96) rfl (by omega) (by omega) (by omega) (by omega) hm2 ?_
      refine bX11_laid_124 hi3 ?_
      rw [e12]
      refine mX11_penOf (ax := 1) hi3 (a := 97) (n := 96) rfl (by omega) (by omega) (by omega) (by omega) hm2 ?_
      obtain ⟨hd1, hd2⟩ := ceP_b (t := lo + i) hm2
      rw [hs3.cp] at hd1 hd2
      refine bX11_laid_139 hi3 ?_
      rw [hd2]
      obtain ⟨d, hdd⟩ : ∃ d, d = ceP h (12 * qi) (lo + i) := ⟨_, rfl⟩
      rw [← hdd] at hd1 ⊢
      have hdx : (iI (d : Int)).toNatClampNeg = d := by rw [iI_ix ⟨by omega, by omega⟩]; rfl
      have hdv : vp_in (iI (d : Int)) 729 := iI_in (by omega) (by omega) (by omega)
      rw [hdx, e1]
      refine ⟨hdv, hdv, ih (i + 1) (by omega) _ (hs3.mk _ _) (by rw [gI_pI, if_neg (by omega)]; exact h30) ?_⟩
      intro x hx7
      have hu : hit (ceP h (12 * qi)) lo (i + 1) x = (hit (ceP h (12 * qi)) lo i x || (d == x)) := by rw [hdd]; rfl
      rw [hu, gI_pI]
      by_cases hxc : x = d
      · subst hxc
        rw [if_pos ⟨rfl, rfl⟩, h3x x hx7, bits2, show (x == x) = true from by simp, Bool.or_true]
      · rw [if_neg (by omega), h3x x hx7, show (d == x) = false from by simpa using fun e => hxc e.symm, Bool.or_false]
  exact loop (n + 1) 0 (by omega) h1 hs01 (h10.trans h00) (fun x hx => (h1z x hx).trans (by show (0 : Int32) = bits false false; decide))
end LAIDM
