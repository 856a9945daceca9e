section FITS4
variable {G : GX} {h : mH} {Q : mO → mH → Prop}
theorem ofV_cg {o o' : Nat → Nat → Nat → Nat → Nat} (e : ∀ ax a b i, ax < 2 → o ax a b i = o' ax a b i) : ofV o = ofV o' := by
  funext r i
  unfold ofV
  rw [e 0 _ _ _ (by omega), e 1 _ _ _ (by omega)]
def w05 (v : Int32) : Prop := 0 ≤ v.toInt ∧ v.toInt ≤ 5
def w99 (v : Int32) : Prop := 0 ≤ v.toInt ∧ v.toInt ≤ 99
def fitV (o : Nat → Nat → Nat → Nat → Nat) (n : Nat) (a b w : Int32) : Int := fiV (dgV a.toInt.toNat) (fun r => ftV (ofV o r) b.toInt.toNat n) (fun r => ttV (ofV o r) n) 10000 w
theorem fitV_c {o : Nat → Nat → Nat → Nat → Nat} {n : Nat} {a b w : Int32} : (w = 0 → fitV o n a b w = (cnt (fun r => dgV a.toInt.toNat r && ftV (ofV o r) b.toInt.toNat n) 10000 : Nat)) ∧ (w = 1 → fitV o n a b w = fsV (fun r => dgV a.toInt.toNat r && ftV (ofV o r) b.toInt.toNat n) 10000) ∧ (w = 2 → fitV o n a b w = oR (fb (dgV a.toInt.toNat) (fun r => ttV (ofV o r) n) 10000)) ∧ (¬ w = 0 → ¬ w = 1 → ¬ w = 2 → fitV o n a b w = oL (fb (dgV a.toInt.toNat) (fun r => ttV (ofV o r) n) 10000)) := by
  unfold fitV fiV
  refine ⟨fun c => ?_, fun c => ?_, fun c => ?_, fun c0 c1 c2 => ?_⟩
  · rw [if_pos c]
  · subst c; rw [if_neg (by decide), if_pos rfl]
  · subst c; rw [if_neg (by decide), if_neg (by decide), if_pos rfl]
  · rw [if_neg c0, if_neg c1, if_neg c2]
def ftS (o : Nat) : Bool := mr 13 o || frS o
theorem mX10_fits {n : Nat} {a b w : Int32} (hi : Iv h) (hn : gI h 33 3 = iI n) (hp : PtR h 36 n) (hf : FR h 3) (hc : CR h 3) (hfd : FdOk h 13) (kN : ¬ i03 w → Th eN h Q) (kI : i03 w → ¬ (w05 a ∧ w99 b) → Th eI h Q)
    (k : ∀ h', i03 w → (w05 a ∧ w99 b) → Sm ftS h h' → FdOk h' 13 → Q (.inl (some (.int (iI (fitV (oFt h 3 36) n a b w))))) h') : WM G jX10_fits [.ref 0, .int a, .int b, .int w] h Q := by
  refine eX10_fits hi ?_
  rw [show (3 : Int32) = iI 3 from by decide]
  refine mX10_needWhat ⟨by decide, by decide⟩ hi (fun w1 w2 => ?_) kN
  have hw : i03 w := ⟨w1, w2⟩
  refine bX10_fits_5 hi ?_
  rw [show (0 : Int32) = iI 0 from by decide, show (5 : Int32) = iI 5 from by decide]
  refine mX10_needWithin ⟨by decide, by decide⟩ ⟨by decide, by decide⟩ hi (fun a1 a2 => ?_) (fun z => kI hw (fun y => z y.1))
  refine bX10_fits_11 hi ?_
  rw [show (0 : Int32) = iI 0 from by decide, show (99 : Int32) = iI 99 from by decide]
  refine mX10_needWithin ⟨by decide, by decide⟩ ⟨by decide, by decide⟩ hi (fun b1 b2 => ?_) (fun z => kI hw (fun y => z y.2))
  have k' := fun h' => k h' hw ⟨⟨a1, a2⟩, b1, b2⟩
  refine bX10_fits_18 hi (mX2_copy (.inl ⟨rfl, rfl⟩) hi (fun h1 hS1 hF => ?_))
  have i1 := hS1.iv hi
  obtain ⟨f4, f12, f8, fo, fc⟩ := hF
  have hf1 : FR h1 13 := fun p hp4 => by
    obtain ⟨q1, q2, q3, q4⟩ := f4 p hp4
    have := hf p hp4
    unfold PnR at this ⊢
    rw [q1, q2, q3, f12 (0 + p) (by omega), f12 (0 + (4 + p)) (by omega), f12 (0 + (8 + p)) (by omega)]
    exact this
  have hc1 : CR h1 13 := by
    have hcb := hc.1
    unfold CR
    rw [fc]
    refine ⟨hc.1, fun i hi => ?_⟩
    have hi4 : i < 4 := by have := hcb.2; omega
    rw [(f4 i hi4).2.2.2]
    refine ⟨(hc.2 i hi).1, fun a ha => ?_⟩
    rw [f8 (2 * i + a) (by omega)]
    exact (hc.2 i hi).2 a ha
  have ho : ofV (oFt h1 13 36) = ofV (oFt h 3 36) := by
    refine ofV_cg (fun ax x y i hax => ?_)
    unfold oFt oA
    have ta : tkF h1 36 i = tkF h 36 i := by unfold tkF; rw [hS1.gI (o := 36) rfl]
    have tp : ptF h1 36 i ax = ptF h 36 i ax := by unfold ptF; rw [hS1.gI (o := 36) rfl]
    have tP : ∀ p q t, p < 4 → aP h1 (13 + 1) (13 + 2) (13 + 3) (13 + 4) p q t = aP h (3 + 1) (3 + 2) (3 + 3) (3 + 4) p q t := fun p q t hp4 => by
      obtain ⟨q1, q2, q3, q4⟩ := f4 p hp4
      unfold aP
      rw [q1, q2, q3, f12 (4 + p) (by omega), f12 (8 + p) (by omega)]
    have ts : ∀ t, skF h1 13 ax t = skF h 3 ax t := fun t => by
      unfold skF
      rw [fc]
      refine shI_congr _ (fun j hj => ?_)
      have hj4 : j < 4 := by have := hc.1.2; omega
      exact ⟨by rw [(f4 j hj4).2.2.2], by rw [f8 (2 * j + ax) (by omega)]⟩
    rw [ta, tp, tP _ _ _ (by omega), tP _ _ _ (by omega), ts]
  have hn1 : gI h1 33 3 = iI n := by rw [hS1.gI (o := 33) rfl]; exact hn
  have hp1 : PtR h1 36 n := ⟨hp.1, fun i hi => by
    rw [hS1.gI (o := 36) rfl]
    refine ⟨(hp.2 i hi).1, fun ax hax => ?_⟩
    rw [hS1.gI (o := 36) rfl]
    exact (hp.2 i hi).2 ax hax⟩
  have hfd1 : FdOk h1 13 := FdOk_cg hS1 (by intro d d1 d2; unfold mr; simp; omega) hfd
  refine bX10_fits_29 i1 ?_
  have ea := i32_nat a1
  have eb := i32_nat b1
  rw [ea, eb]
  refine mX1_findRows i1 (by omega) (by omega) hn1 hp1 hf1 hc1 hfd1 (fun g hS hfd2 hg => ?_)
  have gi := hS.iv i1
  have fin := k' g ((hS1.wk (fun o ho => by unfold ftS at ho; simp at ho; exact ho.1)).tr (hS.wk (fun o ho => by unfold ftS at ho; simp at ho; exact ho.2))) hfd2
  obtain ⟨c0, c1, c2, c3⟩ := fitV_c (o := oFt h 3 36) (n := n) (a := a) (b := b) (w := w)
  unfold fiO at hg
  rw [ho] at hg
  obtain ⟨g0, g1, g2, g3⟩ := hg
  refine bX10_fits_46 gi ⟨fun z => ?_, fun z => ?_, fun z => ?_, fun z0 z1 z2 => ?_⟩
  · rw [g0, ← c0 z]; exact fin
  · rw [g1, ← c1 z]; exact fin
  · rw [g2, ← c2 z]; exact fin
  · rw [g3, ← c3 z0 z1 z2]; exact fin
/-- the model's side -/
def oMt (h : mH) : Nat → Nat → Nat → Nat → Nat := oA (aP h 84 85 86 87) (skM h) (tkF h 99) (ptF h 99)
def dgP (p r : Nat) : Nat := if p = 0 then r / 1000 else if p = 1 then r / 100 % 10 else if p = 2 then r / 10 % 10 else r % 10
/-- g is h but for the row that is tried, which has the pennies of row r -/
def TrR (h g : mH) (r : Nat) : Prop := Sm (fun o => o == 100) h g ∧ (∀ k, 4 ≤ k → k < 12 → gI g 100 k = gI h 87 k) ∧ ∀ p, p < 4 → gI g 100 p = iI (dgP p r : Nat)
theorem dgP_b {p r : Nat} (hr : r < 10000) : dgP p r ≤ 9 := by
  unfold dgP
  repeat' split
  all_goals omega
theorem TrR.ok {h g : mH} {r : Nat} (ht : TrR h g r) (hm : MR h 87 0) (hr : r < 10000) : MR g 100 0 := by
  intro p hp
  have := hm p hp
  unfold PnR at this ⊢
  rw [Nat.zero_add, Nat.zero_add, Nat.zero_add] at this ⊢
  rw [ht.1.gI (o := 84) rfl, ht.1.gI (o := 85) rfl, ht.1.gI (o := 86) rfl, ht.2.1 (4 + p) (by omega) (by omega), ht.2.1 (8 + p) (by omega) (by omega), ht.2.2 p hp]
  refine ⟨this.1, this.2.1, this.2.2.1, ?_, this.2.2.2.2⟩
  have := dgP_b (p := p) hr
  unfold rg
  rw [iI_toInt ⟨by omega, by omega⟩]
  omega
theorem TrR.at {h g : mH} {r p : Nat} (ht : TrR h g r) (hp : p < 4) (hr : r < 10000) (t : Nat) : atV g 84 85 86 100 0 p t = aP h 84 85 86 87 p (dgP p r) t := by
  unfold atV aP
  rw [Nat.zero_add, Nat.zero_add, Nat.zero_add, ht.1.gI (o := 84) rfl, ht.1.gI (o := 85) rfl, ht.1.gI (o := 86) rfl, ht.2.1 (4 + p) (by omega) (by omega), ht.2.1 (8 + p) (by omega) (by omega), ht.2.2 p hp]
  have := dgP_b (p := p) hr
  rw [iI_toInt ⟨by omega, by omega⟩]
theorem mX11_offOf {g : mH} {r n i : Nat} (hi : Iv h) (ht : TrR h g r) (hr : r < 10000) (hm : MR h 87 0) (hc : CM h) (hp : PtR h 99 n) (hin : i < n) (k : Q (.inl (some (.int (iI (ofV (oMt h) r i : Nat))))) g) : WM G jX11_offOf [.ref 83, .int (iI i)] g Q := by
  obtain ⟨n6, hpt⟩ := hp
  have gi := ht.1.iv hi
  have hmg := ht.ok hm hr
  have ht9 : gI g 99 (3 * i) = iI (tkF h 99 i : Nat) := by
    rw [ht.1.gI (o := 99) rfl]
    exact i32_nat (hpt i hin).1.1
  have htb : tkF h 99 i ≤ 9999 := by
    have := (hpt i hin).1.2
    unfold tkF; omega
  have e3 : (3 : Int32) * iI (i : Int) = iI ((3 * i : Nat) : Int) := by rw [n_3, mu_n]
  have hcs := hc
  obtain ⟨⟨c1, c2⟩, hw⟩ := hcs
  obtain ⟨nc, hnc⟩ : ∃ n : Nat, (gI h 83 2).toInt = n := ⟨(gI h 83 2).toInt.toNat, by omega⟩
  have hcn : gI g 83 2 = iI nc := by rw [ht.1.gI (o := 83) rfl, ← hnc, iI_self]
  have hnn : (gI h 83 2).toInt.toNat = nc := by omega
  rw [hnn] at hw
  have one : ∀ (ax : Nat) (v : Nat), ax < 2 → v ≤ 1000 → Vw G jX11_offOf 4 [some (.ref 83), some (.int (iI i)), some (.int (iI ((v + oA (aP h 84 85 86 87) (skM h) (tkF h 99) (ptF h 99) ax (dgP (2 * ax) r) (dgP (2 * ax + 1) r) i : Nat) : Int))), some (.int (iI ((ax + 1 : Nat) : Int))), none, none] [] g Q →
      Vw G jX11_offOf 4 [some (.ref 83), some (.int (iI i)), some (.int (iI v)), some (.int (iI ax)), none, none] [] g Q := by
    intro ax v hax hv nx
    refine bX11_offOf_4 gi ⟨fun c => ?_, fun _ => ?_⟩
    · rw [n_2, le_n (by omega) (by omega)] at c
      omega
    · rw [e3, ix_n (by omega), ht9, n_0]
      refine ⟨in_n (by omega) (by omega), mX11_penOf (f := 0) gi (a := 100) (n := 12) rfl (by omega) (by omega) hax (by omega) hmg ?_⟩
      refine bX11_offOf_27 gi ?_
      rw [n_0]
      have sb := swM_b (t := tkF h 99 i) hmg hax
      have loop : ∀ m j : Nat, j + m = nc → Vw G jX11_offOf 32 [some (.ref 83), some (.int (iI i)), some (.int (iI v)), some (.int (iI ax)), some (.int (iI (swM g 100 0 ax (tkF h 99 i) + shI (fun i => (gI h 88 (3 * i)).toInt) (fun i => (gI h 88 (3 * i + 1 + ax)).toInt) (tkF h 99 i) j))), some (.int (iI j))] [] g Q := by
        intro m
        induction m with
        | zero =>
          intro j hj
          have : j = nc := by omega
          subst this
          refine bX11_offOf_32 gi ⟨fun _ => ?_, fun c => absurd ?_ c⟩
          · have e4 : iI ((3 * i : Nat) : Int) + 1 + iI (ax : Int) = iI ((3 * i + 1 + ax : Nat) : Int) := by rw [n_1, ad_n, ad_n]
            have hq : gI g 99 (3 * i + 1 + ax) = iI (ptF h 99 i ax) := by
              rw [ht.1.gI (o := 99) rfl]
              exact (iI_self _).symm
            have pb : -260 ≤ ptF h 99 i ax ∧ ptF h 99 i ax ≤ 260 := (hpt i hin).2 ax hax
            have kb := skM_b (t := tkF h 99 i) hc hax
            have hsk : shI (fun i => (gI h 88 (3 * i)).toInt) (fun i => (gI h 88 (3 * i + 1 + ax)).toInt) (tkF h 99 i) j = skM h ax (tkF h 99 i) := by
              unfold skM
              rw [hnn]
            rw [hsk, e3, e4, ix_n (by omega), hq, iI_sub, size_iI (by omega) (by omega), ad_n]
            refine ⟨in_n (by omega) (by omega), ?_⟩
            have e5 : iI (ax : Int) + 1 = iI ((ax + 1 : Nat) : Int) := by rw [n_1, ad_n]
            have hoa : (swM g 100 0 ax (tkF h 99 i) + skM h ax (tkF h 99 i) - ptF h 99 i ax).natAbs = oA (aP h 84 85 86 87) (skM h) (tkF h 99) (ptF h 99) ax (dgP (2 * ax) r) (dgP (2 * ax + 1) r) i := by
              unfold swM oA
              rw [ht.at (by omega) hr, ht.at (by omega) hr]
            rw [e5, hoa]
            exact nx
          · rw [hcn]; exact Int32.le_refl _
        | succ m ih =>
          intro j hj
          have hjl : j < nc := by omega
          have h3 : (3 : Int32) * iI (j : Int) = iI ((3 * j : Nat) : Int) := by rw [n_3, mu_n]
          have h4 : iI ((3 * j : Nat) : Int) + 1 + iI (ax : Int) = iI ((3 * j + 1 + ax : Nat) : Int) := by rw [n_1, ad_n, ad_n]
          have e1 : iI (j : Int) + 1 = iI ((j + 1 : Nat) : Int) := by rw [n_1, ad_n]
          have nxt : ∀ z : Int, z = swM g 100 0 ax (tkF h 99 i) + shI (fun i => (gI h 88 (3 * i)).toInt) (fun i => (gI h 88 (3 * i + 1 + ax)).toInt) (tkF h 99 i) (j + 1) → Vw G jX11_offOf 32 [some (.ref 83), some (.int (iI i)), some (.int (iI v)), some (.int (iI ax)), some (.int (iI z)), some (.int (iI ((j + 1 : Nat) : Int)))] [] g Q := by
            intro z hz
            subst hz
            exact ih (j + 1) (by omega)
          refine bX11_offOf_32 gi ⟨fun c => ?_, fun _ => ?_⟩
          · rw [hcn, le_n (by omega) (by omega)] at c
            omega
          · rw [h3, e3, h4, ix_n (by omega), ix_n (by omega), ix_n (by omega), ht9, e1, ht.1.gI (o := 88) rfl, ht.1.gI (o := 88) rfl]
            refine ⟨in_n (by omega) (by omega), in_n (by omega) (by omega), fun c => ?_, fun c => ⟨in_n (by omega) (by omega), ?_⟩⟩
            · rw [i32_0, iI_add]
              refine nxt _ ?_
              rw [← iI_self (gI h 88 (3 * j)), iI_lt ⟨by omega, by omega⟩ (r31_self _)] at c
              show _ = _ + (shI _ _ _ j + _)
              rw [if_neg (by show ¬ (gI h 88 (3 * j)).toInt ≤ _; omega)]
              omega
            · rw [← iI_self (gI h 88 (3 * j + 1 + ax)), iI_add]
              refine nxt _ ?_
              rw [← iI_self (gI h 88 (3 * j)), iI_lt ⟨by omega, by omega⟩ (r31_self _)] at c
              show _ = _ + (shI _ _ _ j + _)
              rw [if_pos (by show (gI h 88 (3 * j)).toInt ≤ _; omega)]
              exact Int.add_assoc _ _ _
      have := loop nc 0 (by omega)
      rw [show swM g 100 0 ax (tkF h 99 i) + shI (fun i => (gI h 88 (3 * i)).toInt) (fun i => (gI h 88 (3 * i + 1 + ax)).toInt) (tkF h 99 i) 0 = swM g 100 0 ax (tkF h 99 i) from by show _ + (0 : Int) = _; omega] at this
      exact this
  refine eX11_offOf gi ?_
  rw [n_0]
  have ob : oA (aP h 84 85 86 87) (skM h) (tkF h 99) (ptF h 99) 0 (dgP 0 r) (dgP 1 r) i ≤ 1000 := by
    have sb := swM_b (t := tkF h 99 i) hmg (show 0 < 2 by omega)
    have kb := skM_b (t := tkF h 99 i) hc (show 0 < 2 by omega)
    have pb : -260 ≤ ptF h 99 i 0 ∧ ptF h 99 i 0 ≤ 260 := (hpt i hin).2 0 (by omega)
    unfold swM at sb
    rw [ht.at (by omega) hr, ht.at (by omega) hr] at sb
    show (aP h 84 85 86 87 (2 * 0) (dgP (2 * 0) r) (tkF h 99 i) + aP h 84 85 86 87 (2 * 0 + 1) (dgP (2 * 0 + 1) r) (tkF h 99 i) + skM h 0 (tkF h 99 i) - ptF h 99 i 0).natAbs ≤ 1000
    omega
  refine one 0 0 (by omega) (by omega) ?_
  refine one 1 _ (by omega) (by show 0 + oA (aP h 84 85 86 87) (skM h) (tkF h 99) (ptF h 99) 0 (dgP 0 r) (dgP 1 r) i ≤ 1000; omega) ?_
  refine bX11_offOf_4 gi ⟨fun _ => ?_, fun c => absurd (by decide) c⟩
  have : ofV (oMt h) r i = 0 + oA (aP h 84 85 86 87) (skM h) (tkF h 99) (ptF h 99) 0 (dgP (2 * 0) r) (dgP (2 * 0 + 1) r) i + oA (aP h 84 85 86 87) (skM h) (tkF h 99) (ptF h 99) 1 (dgP (2 * 1) r) (dgP (2 * 1 + 1) r) i := by
    rw [Nat.zero_add]; rfl
  rw [← this]
  exact k
end FITS4
