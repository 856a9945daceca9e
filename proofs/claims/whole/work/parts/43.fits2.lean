section FITS2
variable {G : GX} {h : mH} {Q : mO → mH → Prop}
theorem skF_b {h : mH} {r ax t : Nat} (hc : CR h r) (hax : ax < 2) : -80 ≤ skF h r ax t ∧ skF h r ax t ≤ 80 := by
  obtain ⟨⟨c1, c2⟩, hw⟩ := hc
  have := shI_b (tk := fun i => (gI h (r + 5) i).toInt) (wy := fun i => (gI h (r + 6) (2 * i + ax)).toInt) (t := t) (gI h r 5).toInt.toNat (fun i hi => (hw i hi).2 ax hax)
  unfold skF
  omega
def ptF (h : mH) (a i ax : Nat) : Int := (gI h a (3 * i + 1 + ax)).toInt
theorem off_iI {x p i : Nat} (hx : x < 2) (hp : p < 36) (hi : i < 6) : fX1_offOf (iI (x : Int)) (iI (p : Int)) + iI (i : Int) = iI ((6 * (36 * x + p) + i : Nat) : Int) := by
  unfold fX1_offOf
  rw [n_36, mu_n, ad_n, n_6, mu_n, ad_n]
def foI (P : Nat → Nat → Nat → Int) (h g : mH) (m n ax i a b : Nat) : Prop := Sm (fun o => o == 73) h g ∧ (∀ x, (x < 216 * ax ∨ 216 * ax + 216 ≤ x) → gI g 73 x = gI h 73 x) ∧ ∀ i' a' b', i' < n → a' ≤ m → b' ≤ m → fpD i a b i' a' b' → gI g 73 (6 * (36 * ax + (6 * a' + b')) + i') = iI (oA P (skF h 13) (tkF h 36) (ptF h 36) ax a' b' i' : Nat)
theorem mX1_findOffs {P : Nat → Nat → Nat → Int} {m n ax : Nat} (hi : Iv h) (hm : m ≤ 5) (hax : ax < 2) (hn : gI h 33 3 = iI n) (hp : PtR h 36 n) (hc : CR h 13) (hP : ∀ p q i, p < 4 → q ≤ m → i < n → gI h 72 (6 * (6 * p + q) + i) = iI (P p q (tkF h 36 i)) ∧ -90 ≤ P p q (tkF h 36 i) ∧ P p q (tkF h 36 i) ≤ 90)
    (k : ∀ g, foI P h g m n ax n 0 0 → Q (.inl none) g) : WM G jX1_findOffs [.ref 71, .ref 13, .ref 33, .int (iI m), .int (iI ax)] h Q := by
  obtain ⟨n6, hpt⟩ := hp
  have hk13 : kd 13 = (2, 11) := rfl
  have hk33 : kd 33 = (3, 7) := rfl
  refine eX1_findOffs hi hk13 hk33 ?_
  rw [n_0]
  have hst : foI P h h m n ax 0 0 0 := ⟨Sm.rf, fun _ _ => rfl, fun i' a' b' _ _ _ hd => by unfold fpD at hd; omega⟩
  have L1 : ∀ (i a : Nat) (due : Int), i < n → a ≤ m → due = ptF h 36 i ax - skF h 13 ax (tkF h 36 i) → (∀ g, foI P h g m n ax i (a + 1) 0 → Vw G jX1_findOffs 47 [some (.ref 71), some (.ref 13), some (.ref 33), some (.int (iI m)), some (.int (iI ax)), some (.int (iI i)), some (.int (iI due)), some (.int (iI ((a + 1 : Nat) : Int))), none, none] [] g Q) → ∀ (d b : Nat) (g : mH), b + d = m + 1 → foI P h g m n ax i a b →
      Vw G jX1_findOffs 56 [some (.ref 71), some (.ref 13), some (.ref 33), some (.int (iI m)), some (.int (iI ax)), some (.int (iI i)), some (.int (iI due)), some (.int (iI a)), some (.int (iI b)), none] [] g Q := by
    intro i a due hin ham hdue nx d
    have e1 : iI (a : Int) + 1 = iI ((a + 1 : Nat) : Int) := by rw [n_1, ad_n]
    induction d with
    | zero =>
      intro b g hbm hg
      refine bX1_findOffs_56 (hg.1.iv hi) hk13 hk33 ⟨fun _ => ?_, fun c => absurd ?_ c⟩
      · rw [e1]
        refine nx g ⟨hg.1, hg.2.1, fun i' a' b' h1 h2 h3 hd => hg.2.2 i' a' b' h1 h2 h3 ?_⟩
        unfold fpD at hd ⊢; omega
      · rw [lt_n (by omega) (by omega)]; omega
    | succ d ih =>
      intro b g hbm hg
      have e2 : iI (b : Int) + 1 = iI ((b + 1 : Nat) : Int) := by rw [n_1, ad_n]
      have e3 : (2 : Int32) * iI (ax : Int) = iI ((2 * ax : Nat) : Int) := by rw [n_2, mu_n]
      have e4 : iI ((2 * ax : Nat) : Int) + 1 = iI ((2 * ax + 1 : Nat) : Int) := by rw [n_1, ad_n]
      have e5 : (6 : Int32) * iI (a : Int) + iI (b : Int) = iI ((6 * a + b : Nat) : Int) := by rw [n_6, mu_n, ad_n]
      refine bX1_findOffs_56 (hg.1.iv hi) hk13 hk33 ⟨fun c => ?_, fun _ => ?_⟩
      · rw [lt_n (by omega) (by omega)] at c
        omega
      · obtain ⟨p1, p2, p3⟩ := hP (2 * ax) a i (by omega) ham hin
        obtain ⟨q1, q2, q3⟩ := hP (2 * ax + 1) b i (by omega) (by omega) hin
        have hsk := skF_b (t := tkF h 36 i) hc hax
        have hpx := (hpt i hin).2 ax hax
        have hpx1 : -260 ≤ ptF h 36 i ax ∧ ptF h 36 i ax ≤ 260 := hpx
        rw [e3, e4, e5, place_iI (by omega) (by omega) (by omega), place_iI (by omega) (by omega) (by omega), off_iI hax (by omega) (by omega), ix_n (by omega), ix_n (by omega), ix_n (by omega), e2]
        rw [hg.1.gI (o := 72) rfl, hg.1.gI (o := 72) rfl, p1, q1, iI_add, iI_sub, abs_iI (by omega) (by omega)]
        refine ⟨in_n (by omega) (by omega), in_n (by omega) (by omega), in_n (by omega) (by omega), ih (b + 1) _ (by omega) ⟨hg.1.pI rfl _ _, fun x hx => ?_, fun i' a' b' h1 h2 h3 hd => ?_⟩⟩
        · rw [gI_pI, if_neg (by omega)]
          exact hg.2.1 x hx
        · rw [gI_pI]
          by_cases e : i' = i ∧ a' = a ∧ b' = b
          · obtain ⟨rfl, rfl, rfl⟩ := e
            rw [if_pos ⟨rfl, rfl⟩]
            congr 2
            unfold oA
            omega
          · rw [if_neg (by omega)]
            refine hg.2.2 i' a' b' h1 h2 h3 ?_
            unfold fpD at hd ⊢; omega
  have L2 : ∀ (i : Nat) (due : Int), i < n → due = ptF h 36 i ax - skF h 13 ax (tkF h 36 i) → (∀ g, foI P h g m n ax (i + 1) 0 0 → Vw G jX1_findOffs 3 [some (.ref 71), some (.ref 13), some (.ref 33), some (.int (iI m)), some (.int (iI ax)), some (.int (iI ((i + 1 : Nat) : Int))), none, none, none, none] [] g Q) → ∀ (d a : Nat) (g : mH), a + d = m + 1 → foI P h g m n ax i a 0 →
      Vw G jX1_findOffs 47 [some (.ref 71), some (.ref 13), some (.ref 33), some (.int (iI m)), some (.int (iI ax)), some (.int (iI i)), some (.int (iI due)), some (.int (iI a)), none, none] [] g Q := by
    intro i due hin hdue nx d
    have e1 : iI (i : Int) + 1 = iI ((i + 1 : Nat) : Int) := by rw [n_1, ad_n]
    induction d with
    | zero =>
      intro a g ham hg
      refine bX1_findOffs_47 (hg.1.iv hi) hk13 hk33 ⟨fun _ => ?_, fun c => absurd ?_ c⟩
      · rw [e1]
        refine nx g ⟨hg.1, hg.2.1, fun i' a' b' h1 h2 h3 hd => hg.2.2 i' a' b' h1 h2 h3 ?_⟩
        unfold fpD at hd ⊢; omega
      · rw [lt_n (by omega) (by omega)]; omega
    | succ d ih =>
      intro a g ham hg
      refine bX1_findOffs_47 (hg.1.iv hi) hk13 hk33 ⟨fun c => ?_, fun _ => ?_⟩
      · rw [lt_n (by omega) (by omega)] at c
        omega
      · rw [n_0]
        exact L1 i a due hin (by omega) hdue (fun g2 hg2 => ih (a + 1) g2 (by omega) hg2) (m + 1) 0 g (by omega) hg
  have L3 : ∀ (d i : Nat) (g : mH), i + d = n → foI P h g m n ax i 0 0 → Vw G jX1_findOffs 3 [some (.ref 71), some (.ref 13), some (.ref 33), some (.int (iI m)), some (.int (iI ax)), some (.int (iI i)), none, none, none, none] [] g Q := by
    intro d
    induction d with
    | zero =>
      intro i g hin hg
      have : i = n := by omega
      subst this
      have hgn : gI g 33 3 = iI i := by rw [hg.1.gI (o := 33) rfl]; exact hn
      refine bX1_findOffs_3 (hg.1.iv hi) hk13 hk33 ⟨fun _ => k g hg, fun c => absurd ?_ c⟩
      rw [hgn]; exact Int32.le_refl _
    | succ d ih =>
      intro i g hin hg
      have hil : i < n := by omega
      have gi := hg.1.iv hi
      have hgn : gI g 33 3 = iI n := by rw [hg.1.gI (o := 33) rfl]; exact hn
      have e3 : (3 : Int32) * iI (i : Int) = iI ((3 * i : Nat) : Int) := by rw [n_3, mu_n]
      have e4 : iI ((3 * i : Nat) : Int) + 1 + iI (ax : Int) = iI ((3 * i + 1 + ax : Nat) : Int) := by rw [n_1, ad_n, ad_n]
      have ht : gI g (33 + 3) (3 * i) = iI (tkF h 36 i : Nat) := by
        rw [hg.1.gI (o := 33 + 3) rfl]
        exact i32_nat (hpt i hil).1.1
      have hq : gI g (33 + 3) (3 * i + 1 + ax) = iI (ptF h 36 i ax) := by
        rw [hg.1.gI (o := 33 + 3) rfl]
        exact (iI_self _).symm
      have htb : tkF h 36 i ≤ 9999 := by
        have := (hpt i hil).1.2
        unfold tkF; omega
      refine bX1_findOffs_3 gi hk13 hk33 ⟨fun c => ?_, fun _ => ?_⟩
      · rw [hgn, le_n (by omega) (by omega)] at c
        omega
      · rw [e3, e4, ix_n (by omega), ix_n (by omega), ht, hq]
        refine ⟨in_n (by omega) (by omega), in_n (by omega) (by omega), ?_⟩
        have hcg : CR g 13 := CR_cg hg.1 (by intro d hd; simp; omega) hc
        have hsg : skF g 13 ax (tkF h 36 i) = skF h 13 ax (tkF h 36 i) := by
          unfold skF
          rw [hg.1.gI (o := 13) rfl]
          exact shI_congr _ (fun j _ => ⟨by rw [hg.1.gI (o := 13 + 5) rfl], by rw [hg.1.gI (o := 13 + 6) rfl]⟩)
        refine mX2_shaken (r := 13) gi hk13 hax (by omega) hcg ?_
        refine bX1_findOffs_41 gi hk13 hk33 ?_
        rw [hsg, iI_sub, n_0]
        exact L2 i _ hil rfl (fun g2 hg2 => ih (i + 1) g2 (by omega) hg2) (m + 1) 0 g (by omega) hg
  exact L3 n 0 h (by omega) hst
/-- weigh: a row of pennies -/
def wgS (o : Nat) : Bool := o == 71
def fiO (o : Nat → Nat → Nat → Nat → Nat) (n near m : Nat) (r : Nat) (g : mH) : Prop :=
  gI g 71 0 = iI (cnt (fun r => dgV m r && ftV (ofV o r) near n) r : Nat) ∧ gI g 71 1 = iI (fsV (fun r => dgV m r && ftV (ofV o r) near n) r) ∧ gI g 71 2 = iI (oR (fb (dgV m) (fun r => ttV (ofV o r) n) r)) ∧ gI g 71 3 = iI (oL (fb (dgV m) (fun r => ttV (ofV o r) n) r))
theorem figures_iI {a b : Nat} (ha : a ≤ 5) (hb : b ≤ 5) : fX1_figures (iI ((6 * a + b : Nat) : Int)) = iI ((10 * a + b : Nat) : Int) := by
  unfold fX1_figures
  rw [show (6 : Int32) = iI 6 from by decide, iI_rem ⟨by omega, by omega⟩ ⟨by decide, by decide⟩, iI_div ⟨by omega, by omega⟩ ⟨by decide, by decide⟩, show (10 : Int32) = iI 10 from by decide, iI_mul, iI_add]
  congr 1
  rw [Int.tdiv_eq_ediv_of_nonneg (by omega), Int.tmod_eq_emod_of_nonneg (by omega)]
  omega
theorem fb_bg {g : Nat → Bool} {mv : Nat → Nat} {B : Nat} : ∀ n, (∀ k, k < n → g k = true → mv k ≤ B) → ∀ r c, fb g mv n = some (r, c) → r < n ∧ c ≤ B
  | 0, _, r, c, e => by cases e
  | n + 1, hB, r, c, e => by
    have ih := fb_bg (g := g) n (fun k hk => hB k (by omega))
    unfold fb fb1 at e
    split at e
    · rename_i hgn
      have hn := hB n (by omega) hgn
      split at e
      · cases e
        exact ⟨by omega, hn⟩
      · rename_i r' d he
        split at e
        · cases e
          exact ⟨by omega, hn⟩
        · cases e
          have := ih _ _ he
          exact ⟨by omega, this.2⟩
    · have := ih _ _ e
      exact ⟨by omega, this.2⟩
theorem tt_b {o : Nat → Nat → Nat → Nat → Nat} {m n : Nat} (n6 : n ≤ 6) (hb : ∀ ax a b i, ax < 2 → a ≤ m → b ≤ m → i < n → o ax a b i ≤ 1000) : ∀ r, dgV m r = true → ttV (ofV o r) n ≤ 12000 := by
  intro r hr
  unfold dgV at hr
  simp at hr
  have := ttV_b (f := ofV o r) (B := 2000) n (fun i hi => by
    unfold ofV
    have h1 := hb 0 (r / 1000) (r / 100 % 10) i (by omega) (by omega) (by omega) hi
    have h2 := hb 1 (r / 10 % 10) (r % 10) i (by omega) (by omega) (by omega) hi
    omega)
  have : n * 2000 ≤ 12000 := by omega
  omega
theorem mX1_weigh {o : Nat → Nat → Nat → Nat → Nat} {n near m a b c d : Nat} (hi : Iv h) (n6 : n ≤ 6) (hnear : near ≤ 99) (hm : m ≤ 5) (ha : a ≤ m) (hb : b ≤ m) (hc : c ≤ m) (hd : d ≤ m)
    (ho : ∀ ax a b i, ax < 2 → a ≤ m → b ≤ m → i < n → gI h 73 (6 * (36 * ax + (6 * a + b)) + i) = iI (o ax a b i : Nat)) (hob : ∀ ax a b i, ax < 2 → a ≤ m → b ≤ m → i < n → o ax a b i ≤ 1000) (hs : fiO o n near m (1000 * a + 100 * b + 10 * c + d) h)
    (k : ∀ g, Sm wgS h g → fiO o n near m (1000 * a + 100 * b + 10 * c + d + 1) g → Q (.inl none) g) : WM G jX1_weigh [.ref 71, .int (iI ((6 * a + b : Nat) : Int)), .int (iI ((6 * c + d : Nat) : Int)), .int (iI n), .int (iI near)] h Q := by
  refine eX1_weigh hi ?_
  have hr : (100 : Int32) * fX1_figures (iI ((6 * a + b : Nat) : Int)) + fX1_figures (iI ((6 * c + d : Nat) : Int)) = iI ((1000 * a + 100 * b + 10 * c + d : Nat) : Int) := by
    rw [figures_iI (by omega) (by omega), figures_iI (by omega) (by omega), n_100, mu_n, ad_n]
    congr 2; omega
  generalize hrow : 1000 * a + 100 * b + 10 * c + d = row at *
  have hof : ∀ i, ofV o row i = o 0 a b i + o 1 c d i := fun i => by
    unfold ofV
    rw [show row / 1000 = a from by omega, show row / 100 % 10 = b from by omega, show row / 10 % 10 = c from by omega, show row % 10 = d from by omega]
  have hdg : dgV m row = true := by
    unfold dgV
    rw [show row / 1000 = a from by omega, show row / 100 % 10 = b from by omega, show row / 10 % 10 = c from by omega, show row % 10 = d from by omega]
    simp; omega
  have hrl : row < 10000 := by omega
  obtain ⟨s0, s1, s2, s3⟩ := hs
  have htb := tt_b n6 hob row hdg
  have hcb := cnt_le (fun r => dgV m r && ftV (ofV o r) near n) row
  have hfsb := fsV_b (fun r => dgV m r && ftV (ofV o r) near n) row
  have fin : ∀ (g : mH), Iv g → Sm wgS h g → gI g 71 2 = iI (oR (fb (dgV m) (fun r => ttV (ofV o r) n) row)) → gI g 71 3 = iI (oL (fb (dgV m) (fun r => ttV (ofV o r) n) row)) →
      gI g 71 0 = iI (cnt (fun r => dgV m r && ftV (ofV o r) near n) (row + 1) : Nat) → gI g 71 1 = iI (fsV (fun r => dgV m r && ftV (ofV o r) near n) (row + 1)) →
      Vw G jX1_weigh 124 [some (.ref 71), none, none, none, none, some (.int (iI (ttV (ofV o row) n : Nat))), none, some (.int (iI row)), none] [] g Q := by
    intro g gi gS g2 g3 g0 g1
    have yes : fb (dgV m) (fun r => ttV (ofV o r) n) (row + 1) = some (row, ttV (ofV o row) n) → Vw G jX1_weigh 141 [some (.ref 71), none, none, none, none, some (.int (iI (ttV (ofV o row) n : Nat))), none, some (.int (iI row)), none] [] g Q := fun e => by
      refine bX1_weigh_141 gi (k _ ((gS.pI rfl _ _).pI rfl _ _) ⟨?_, ?_, ?_, ?_⟩)
      · rw [gI_pI, if_neg (by omega), gI_pI, if_neg (by omega)]; exact g0
      · rw [gI_pI, if_neg (by omega), gI_pI, if_neg (by omega)]; exact g1
      · rw [gI_pI, if_neg (by omega), gI_pI, if_pos ⟨rfl, rfl⟩, e]; rfl
      · rw [gI_pI, if_pos ⟨rfl, rfl⟩, e]; rfl
    cases e : fb (dgV m) (fun r => ttV (ofV o r) n) row with
    | none =>
      rw [e] at g2
      have hnew := fb_first (mv := fun r => ttV (ofV o r) n) hdg e
      refine bX1_weigh_124 gi ⟨fun _ => yes hnew, fun c => absurd ?_ c⟩
      rw [g2]; decide
    | some x =>
      obtain ⟨r, dd⟩ := x
      rw [e] at g2 g3
      obtain ⟨b1, b2⟩ := fb_bg row (fun k _ hk => tt_b n6 hob k hk) r dd e
      have hr2 : gI g 71 2 ≠ -1 := by
        rw [g2, m1_iI]
        show ¬ iI (r : Int) = _
        rw [iI_eq ⟨by omega, by omega⟩ ⟨by decide, by decide⟩]
        omega
      have hle : gI g 71 3 ≤ iI (ttV (ofV o row) n : Nat) ↔ dd ≤ ttV (ofV o row) n := by
        rw [g3]
        exact le_n (by omega) (by omega)
      refine bX1_weigh_124 gi ⟨fun c => absurd c hr2, fun _ => ⟨fun c => ?_, fun c => yes ?_⟩⟩
      · rw [hle] at c
        have hnew := fb_more (g := dgV m) (mv := fun r => ttV (ofV o r) n) e c
        refine k g gS ⟨g0, g1, ?_, ?_⟩
        · rw [hnew, e]; exact g2
        · rw [hnew, e]; exact g3
      · rw [hle] at c
        exact fb_less (mv := fun r => ttV (ofV o r) n) hdg e (by show ttV (ofV o row) n < dd; omega)
  have loop : ∀ (e i : Nat), i + e = n → Vw G jX1_weigh 9 [some (.ref 71), some (.int (iI ((6 * a + b : Nat) : Int))), some (.int (iI ((6 * c + d : Nat) : Int))), some (.int (iI n)), some (.int (iI near)), some (.int (iI (ttV (ofV o row) i : Nat))), some (.int (if ftV (ofV o row) near i then 1 else 0)), some (.int (iI i)), none] [] h Q := by
    intro e
    induction e with
    | zero =>
      intro i hin
      have : i = n := by omega
      subst this
      refine bX1_weigh_9 hi ⟨fun _ => ?_, fun c => absurd (Int32.le_refl _) c⟩
      rw [hr]
      cases hft : ftV (ofV o row) near i with
      | false =>
        refine ⟨fun _ => fin h hi Sm.rf s2 s3 ?_ ?_, fun c => absurd rfl c⟩
        · rw [s0]
          conv => rhs; unfold cnt
          rw [hft]; simp
        · rw [s1]
          conv => rhs; unfold fsV
          rw [hft]
          split
          · rename_i hz; rw [hz]; simp
          · rfl
      | true =>
        have r1 : gI (pI h 71 0 (gI h 71 0 + 1)) 71 1 = gI h 71 1 := by rw [gI_pI, if_neg (by omega)]
        have n0 : gI h 71 0 + 1 = iI (cnt (fun r => dgV m r && ftV (ofV o r) near i) (row + 1) : Nat) := by
          rw [s0, n_1, ad_n]
          congr 2
          conv => rhs; unfold cnt
          rw [hft, hdg]; simp
        rw [r1]
        refine ⟨fun c => absurd c (by decide), fun _ => ⟨fun c => ?_, fun c => ?_⟩⟩
        · refine fin _ (show Iv h from hi) ((Sm.rf.pI rfl _ _).pI rfl _ _) ?_ ?_ ?_ ?_
          · rw [gI_pI, if_neg (by omega), gI_pI, if_neg (by omega)]; exact s2
          · rw [gI_pI, if_neg (by omega), gI_pI, if_neg (by omega)]; exact s3
          · rw [gI_pI, if_neg (by omega), gI_pI, if_pos ⟨rfl, rfl⟩]; exact n0
          · rw [gI_pI, if_pos ⟨rfl, rfl⟩, s1]
            conv => rhs; unfold fsV
            rw [if_neg (fun z => c (by rw [s1, z, m1_iI]))]
        · refine fin _ (show Iv h from hi) ((Sm.rf.pI rfl _ _).pI rfl _ _) ?_ ?_ ?_ ?_
          · rw [gI_pI, if_neg (by omega), gI_pI, if_neg (by omega)]; exact s2
          · rw [gI_pI, if_neg (by omega), gI_pI, if_neg (by omega)]; exact s3
          · rw [gI_pI, if_neg (by omega), gI_pI, if_pos ⟨rfl, rfl⟩]; exact n0
          · rw [gI_pI, if_pos ⟨rfl, rfl⟩]
            conv => rhs; unfold fsV
            rw [s1, m1_iI, iI_eq ⟨by omega, by omega⟩ ⟨by decide, by decide⟩] at c
            rw [if_pos c, hft, hdg]; simp
    | succ e ih =>
      intro i hin
      have hil : i < n := by omega
      have x1 := off_iI (x := 0) (p := 6 * a + b) (i := i) (by omega) (by omega) (by omega)
      have x2 := off_iI (x := 1) (p := 6 * c + d) (i := i) (by omega) (by omega) (by omega)
      have h1 := ho 0 a b i (by omega) ha hb hil
      have h2 := ho 1 c d i (by omega) hc hd hil
      have h1b := hob 0 a b i (by omega) ha hb hil
      have h2b := hob 1 c d i (by omega) hc hd hil
      have e1 : iI (i : Int) + 1 = iI ((i + 1 : Nat) : Int) := by rw [n_1, ad_n]
      have htt : ttV (ofV o row) i ≤ 12000 := by
        have := ttV_b (f := ofV o row) (B := 2000) i (fun j hj => by
          rw [hof j]
          have h1 := hob 0 a b j (by omega) ha hb (by omega)
          have h2 := hob 1 c d j (by omega) hc hd (by omega)
          omega)
        have : i * 2000 ≤ 12000 := by omega
        omega
      have nx : ∀ z : Int32, z = (if ftV (ofV o row) near (i + 1) then 1 else 0) → Vw G jX1_weigh 9 [some (.ref 71), some (.int (iI ((6 * a + b : Nat) : Int))), some (.int (iI ((6 * c + d : Nat) : Int))), some (.int (iI n)), some (.int (iI near)), some (.int (iI ((ttV (ofV o row) i + (o 0 a b i + o 1 c d i) : Nat) : Int))), some (.int z), some (.int (iI ((i + 1 : Nat) : Int))), none] [] h Q := fun z hz => by
        have := ih (i + 1) (by omega)
        rw [← hz] at this
        have hh : ttV (ofV o row) (i + 1) = ttV (ofV o row) i + (o 0 a b i + o 1 c d i) := by
          conv => lhs; unfold ttV
          rw [hof i]
        rw [hh] at this
        exact this
      have hff : ftV (ofV o row) near (i + 1) = (ftV (ofV o row) near i && decide (o 0 a b i + o 1 c d i ≤ near)) := by
        conv => lhs; unfold ftV
        rw [hof i]
      refine bX1_weigh_9 hi ⟨fun c => ?_, fun _ => ?_⟩
      · rw [le_n (by omega) (by omega)] at c
        omega
      · rw [show (0 : Int32) = iI ((0 : Nat) : Int) from by decide, show (1 : Int32) = iI ((1 : Nat) : Int) from by decide, x1, x2, ix_n (by omega), ix_n (by omega), h1, h2, ad_n, ad_n, ad_n]
        refine ⟨in_n (by omega) (by omega), in_n (by omega) (by omega), fun c => nx _ ?_, fun c => nx _ ?_⟩
        · rw [lt_n (by omega) (by omega)] at c
          rw [hff, decide_eq_false (by omega), Bool.and_false]
          cases ftV (ofV o row) near i <;> decide
        · rw [lt_n (by omega) (by omega)] at c
          rw [hff, decide_eq_true (by omega), Bool.and_true]
          cases ftV (ofV o row) near i <;> decide
  have := loop n 0 (by omega)
  rw [n_0]
  exact this
end FITS2
