section FITS5
variable {G : GX} {h : mH} {Q : mO → mH → Prop}
def bL (b : Bool) : Int32 := if b then 1 else 0
theorem bL_0 {b : Bool} : bL b = 0 ↔ b = false := by cases b <;> decide
theorem fits98 {g : mH} {v1 v2 v3 v4 v5 v6 v7 v8 : Int32} {b : Bool} {x m p : Nat} (gi : Iv g) (hx : x < 10000) (hp : p < 4) (hm : v1 = iI m) (hm5 : m ≤ 5)
    (nx : Vw G jX11_fits 98 [some (.ref 83), some (.int v1), some (.int v2), some (.int v3), some (.int v4), some (.int v5), some (.int v6), some (.int v7), some (.int v8), some (.int (iI ((x / 10 : Nat) : Int))), some (.int (bL (b && decide (x % 10 ≤ m)))), some (.int (iI ((p : Int) - 1))), none, none] [] (pI g 100 p (iI ((x % 10 : Nat) : Int))) Q) :
    Vw G jX11_fits 98 [some (.ref 83), some (.int v1), some (.int v2), some (.int v3), some (.int v4), some (.int v5), some (.int v6), some (.int v7), some (.int v8), some (.int (iI x)), some (.int (bL b)), some (.int (iI p)), none, none] [] g Q := by
  have e1 : iI (p : Int) + (-1) = iI ((p : Int) - 1) := by rw [m1_iI, iI_add]; rfl
  have gi2 : Iv (pI g 100 p (iI ((x % 10 : Nat) : Int))) := gi
  refine bX11_fits_98 gi ⟨fun c => ?_, fun _ => ?_⟩
  · rw [i32_0, iI_lt ⟨by omega, by omega⟩ ⟨by decide, by decide⟩] at c
    omega
  · rw [tm_iI (by omega), td_iI (by omega), ix_n (by omega), e1, gI_pI, if_pos ⟨rfl, rfl⟩]
    refine ⟨in_n (by omega) (by omega), fun c => ?_, fun c => ⟨in_n (by omega) (by omega), fun c1 => ?_, fun c1 => ?_⟩⟩
    · rw [bL_0] at c
      rw [c, Bool.false_and] at nx
      refine bX11_fits_135 gi2 ?_
      rw [td_iI (by omega), e1]
      exact nx
    · rw [hm, lt_n (by omega) (by omega)] at c1
      rw [decide_eq_false (by omega), Bool.and_false] at nx
      refine bX11_fits_135 gi2 ?_
      rw [td_iI (by omega), e1]
      exact nx
    · rw [hm, lt_n (by omega) (by omega)] at c1
      have hb : b = true := by cases b with
        | true => rfl
        | false => exact absurd (bL_0.mpr rfl) c
      rw [hb, decide_eq_true (by omega)] at nx
      exact nx
theorem dgV_d (m r : Nat) : dgV m r = ((((true && decide (r % 10 ≤ m)) && decide (r / 10 % 10 ≤ m)) && decide (r / 10 / 10 % 10 ≤ m)) && decide (r / 10 / 10 / 10 % 10 ≤ m)) ∨ 10000 ≤ r := by
  by_cases hr : r < 10000
  · refine .inl ?_
    unfold dgV
    rw [show r / 10 / 10 = r / 100 from by omega, show r / 100 / 10 % 10 = r / 1000 from by omega]
    cases decide (r / 1000 ≤ m) <;> cases decide (r / 100 % 10 ≤ m) <;> cases decide (r / 10 % 10 ≤ m) <;> cases decide (r % 10 ≤ m) <;> rfl
  · exact .inr (by omega)
def fmS (o : Nat) : Bool := o == 83 || (o == 100)
theorem mX11_fits {n : Nat} {a b w : Int32} (hi : Iv h) (hn : gI h 83 33 = iI n) (hp : PtR h 99 n) (hm : MR h 87 0) (hc : CM h) (kN : ¬ i03 w → Q (.inl (some (.int 0))) (pI (pI h 83 0 0) 83 0 1)) (kI : i03 w → ¬ (w05 a ∧ w99 b) → Q (.inl (some (.int 0))) (pI (pI h 83 0 0) 83 0 2))
    (k : ∀ h', i03 w → (w05 a ∧ w99 b) → Sm (fun o => o == 100) (pI h 83 0 0) h' → Q (.inl (some (.int (iI (fitV (oMt h) n a b w))))) h') : WM G jX11_fits [.ref 83, .int a, .int b, .int w] h Q := by
  have hi0 : Iv (pI h 83 0 0) := hi
  have h00 : gI (pI h 83 0 0) 83 0 = 0 := by rw [gI_pI]; rfl
  have r0 : ∀ o j, o ≠ 83 → gI (pI h 83 0 0) o j = gI h o j := fun o j ho => by rw [gI_pI, if_neg (by omega)]
  have rf : ∀ j, j ≠ 0 → gI (pI h 83 0 0) 83 j = gI h 83 j := fun j ho => by rw [gI_pI, if_neg (by omega)]
  refine eX11_fits hi ?_
  rw [show fX11_within w 0 3 = bI (0 ≤ w.toInt ∧ w.toInt ≤ 3) from within_b (a := 0) (b := 3) ⟨by decide, by decide⟩ ⟨by decide, by decide⟩]
  refine mX11_right hi0 h00 (by decide) (fun hw => ?_) (fun hw => bX11_fits_16 (h := pI (pI h 83 0 0) 83 0 1) hi ⟨fun _ => kN hw, fun z => absurd rfl z⟩)
  have no : ¬ (w05 a ∧ w99 b) → WM G jX11_right [.ref 83, .int 0, .int 2] (pI h 83 0 0) (Aft G jX11_fits 45 [some (.ref 83), some (.int a), some (.int b), some (.int w), none, none, none, none, none, none, none, none, none, none] [] Q) := fun z => mX11_right0 hi0 h00 (by decide) (bX11_fits_48 (h := pI (pI h 83 0 0) 83 0 2) hi ⟨fun z => absurd rfl z, fun _ => kI hw z⟩)
  have wa := within_0 (v := a) (a := 0) (b := 5) ⟨by decide, by decide⟩ ⟨by decide, by decide⟩
  have wb := within_0 (v := b) (a := 0) (b := 99) ⟨by decide, by decide⟩ ⟨by decide, by decide⟩
  refine bX11_fits_16 hi0 ⟨fun z => absurd z (by decide), fun _ => ⟨fun c => no (fun z => wa.mp c z.1), fun c1 => ⟨fun c => no (fun z => wb.mp c z.2), fun c2 => mX11_right1 hi0 h00 (by decide) ?_⟩⟩⟩
  have ha : w05 a := Classical.not_not.mp (fun z => c1 (wa.mpr z))
  have hb : w99 b := Classical.not_not.mp (fun z => c2 (wb.mpr z))
  clear c1 c2 wa wb no kN kI
  have k' := fun h' => k h' hw ⟨ha, hb⟩
  clear k
  obtain ⟨q0, q1, q2, q3⟩ := fitV_c (o := oMt h) (n := n) (a := a) (b := b) (w := w)
  have hoM : oMt (pI h 83 0 0) = oMt h := by
    unfold oMt
    have x1 : aP (pI h 83 0 0) 84 85 86 87 = aP h 84 85 86 87 := by
      funext p q t
      unfold aP
      rw [r0 84 _ (by omega), r0 85 _ (by omega), r0 86 _ (by omega), r0 87 _ (by omega), r0 87 _ (by omega)]
    have x2 : skM (pI h 83 0 0) = skM h := by
      funext ax t
      exact skM_rows (rf 2 (by omega)) (fun j => r0 88 j (by omega)) ax t
    have x3 : tkF (pI h 83 0 0) 99 = tkF h 99 := by
      funext i; unfold tkF; rw [r0 99 _ (by omega)]
    have x4 : ptF (pI h 83 0 0) 99 = ptF h 99 := by
      funext i ax; unfold ptF; rw [r0 99 _ (by omega)]
    rw [x1, x2, x3, x4]
  rw [← hoM] at q0 q1 q2 q3 k'
  have hm0 : MR (pI h 83 0 0) 87 0 := MR_cg (Sm_ts h 0) rfl rfl rfl rfl hm
  have hc0 : CM (pI h 83 0 0) := CM_rows (rf 2 (by omega)) (fun j => r0 88 j (by omega)) hc
  have hn0 : gI (pI h 83 0 0) 83 33 = iI n := by rw [rf 33 (by omega)]; exact hn
  have hp0 : PtR (pI h 83 0 0) 99 n := ⟨hp.1, fun i hi => by
    rw [r0 99 _ (by omega)]
    refine ⟨(hp.2 i hi).1, fun ax hax => ?_⟩
    rw [r0 99 _ (by omega)]
    exact (hp.2 i hi).2 ax hax⟩
  clear hoM r0 rf h00 hm hc hn hp hi
  generalize pI h 83 0 0 = h0 at *
  obtain ⟨a1, a2⟩ := ha
  obtain ⟨b1, b2⟩ := hb
  have ea := i32_nat a1
  have eb := i32_nat b1
  have hm5 : a.toInt.toNat ≤ 5 := by omega
  have hb99 : b.toInt.toNat ≤ 99 := by omega
  generalize a.toInt.toNat = m at *
  generalize b.toInt.toNat = near at *
  have n6 := hp0.1
  refine bX11_fits_48 hi0 ⟨fun _ => mX11_copies hi0 (a := 87) (b := 100) (n := 12) rfl rfl (by omega) (by omega) (fun g0 hS0 hg0 => ?_), fun z => absurd z (by decide)⟩
  refine bX11_fits_65 (hS0.iv hi0) ?_
  have hob : ∀ ax x y i, ax < 2 → x ≤ m → y ≤ m → i < n → oMt h0 ax x y i ≤ 1000 := by
    intro ax x y i hax hx hy hin
    have P := fun p q (hp4 : p < 4) (hq : q ≤ 5) => (show -90 ≤ aP h0 84 85 86 87 p q (tkF h0 99 i) ∧ aP h0 84 85 86 87 p q (tkF h0 99 i) ≤ 90 from by
      have ok := (hm0 p hp4).ok
      rw [Nat.zero_add, Nat.zero_add, Nat.zero_add] at ok
      obtain ⟨o1, o2, o3, o4, o5, o6, b1, b2, b3, b4, b5, b6, b7, b8, b9, b10, b11, b12⟩ := ok
      unfold aP atI
      have f := fdN_le b5 (by omega) b11 (tkF h0 99 i / ((gI h0 85 p).toInt + (q : Int)).toNat)
      have u1 := Int.emod_nonneg ((tkF h0 99 i : Int) + (gI h0 87 (4 + p)).toInt) (b := (gI h0 85 p).toInt + (q : Int)) (by omega)
      have u2 := Int.emod_lt_of_pos ((tkF h0 99 i : Int) + (gI h0 87 (4 + p)).toInt) (b := (gI h0 85 p).toInt + (q : Int)) (by omega)
      have := posI_b b1 b2 u1 u2 f.1
      omega)
    have p1 := P (2 * ax) x (by omega) (by omega)
    have p2 := P (2 * ax + 1) y (by omega) (by omega)
    have kb := skM_b (t := tkF h0 99 i) hc0 hax
    have pb : -260 ≤ ptF h0 99 i ax ∧ ptF h0 99 i ax ≤ 260 := (hp0.2 i hin).2 ax hax
    unfold oMt oA
    omega
  have loop : ∀ (d r : Nat) (g : mH), r + d = 10000 → Sm (fun o => o == 100) h0 g → (∀ k, 4 ≤ k → k < 12 → gI g 100 k = gI h0 87 k) →
      Vw G jX11_fits 80 [some (.ref 83), some (.int a), some (.int b), some (.int w), some (.int (iI (cnt (fun r => dgV m r && ftV (ofV (oMt h0) r) near n) r : Nat))), some (.int (iI (fsV (fun r => dgV m r && ftV (ofV (oMt h0) r) near n) r))), some (.int (iI (oR (fb (dgV m) (fun r => ttV (ofV (oMt h0) r) n) r)))), some (.int (iI (oL (fb (dgV m) (fun r => ttV (ofV (oMt h0) r) n) r)))), some (.int (iI r)), none, none, none, none, none] [] g Q := by
    intro d
    induction d with
    | zero =>
      intro r g hr hS hk
      have : r = 10000 := by omega
      subst this
      refine bX11_fits_80 (hS.iv hi0) ⟨fun _ => ⟨fun z0 => ⟨fun z1 => ⟨fun z2 => ?_, fun z2 => ?_⟩, fun z1 => ?_⟩, fun z0 => ?_⟩, fun c => absurd (by decide) c⟩
      · rw [← q3 z0 z1 z2]; exact k' g hS
      · rw [← q2 z2]; exact k' g hS
      · rw [← q1 z1]; exact k' g hS
      · rw [← q0 z0]; exact k' g hS
    | succ d ih =>
      intro r g hr hS hk
      have gi := hS.iv hi0
      have hrl : r < 10000 := by omega
      have e1 : iI (r : Int) + 1 = iI ((r + 1 : Nat) : Int) := by rw [n_1, ad_n]
      refine bX11_fits_80 gi ⟨fun c => ?_, fun _ => ?_⟩
      · rw [n_10000, le_n (by omega) (by omega)] at c
        omega
      · rw [show (3 : Int32) = iI ((3 : Nat) : Int) from by decide, show (1 : Int32) = bL true from rfl]
        refine fits98 gi hrl (by omega) ea hm5 ?_
        refine fits98 (p := 2) (show Iv g from gi) (by omega) (by omega) ea hm5 ?_
        refine fits98 (p := 1) (show Iv g from gi) (by omega) (by omega) ea hm5 ?_
        refine fits98 (p := 0) (show Iv g from gi) (by omega) (by omega) ea hm5 ?_
        rw [← (dgV_d m r).resolve_right (by omega)]
        generalize hg2 : pI (pI (pI (pI g 100 3 (iI ((r % 10 : Nat) : Int))) 100 2 (iI ((r / 10 % 10 : Nat) : Int))) 100 1 (iI ((r / 10 / 10 % 10 : Nat) : Int))) 100 0 (iI ((r / 10 / 10 / 10 % 10 : Nat) : Int)) = g2
        have S2 : Sm (fun o => o == 100) h0 g2 := by rw [← hg2]; exact (((hS.pI rfl _ _).pI rfl _ _).pI rfl _ _).pI rfl _ _
        have k2 : ∀ k, 4 ≤ k → k < 12 → gI g2 100 k = gI h0 87 k := fun j h4 h12 => by
          rw [← hg2, gI_pI, if_neg (by omega), gI_pI, if_neg (by omega), gI_pI, if_neg (by omega), gI_pI, if_neg (by omega)]
          exact hk j h4 h12
        have tr : TrR h0 g2 r := ⟨S2, k2, fun p hp4 => by
          rw [← hg2]
          unfold dgP
          rcases (show p = 0 ∨ p = 1 ∨ p = 2 ∨ p = 3 from by omega) with rfl | rfl | rfl | rfl
          · rw [gI_pI, if_pos ⟨rfl, rfl⟩, if_pos rfl, show r / 10 / 10 / 10 % 10 = r / 1000 from by omega]
          · rw [gI_pI, if_neg (by omega), gI_pI, if_pos ⟨rfl, rfl⟩, if_neg (by omega), if_pos rfl, show r / 10 / 10 % 10 = r / 100 % 10 from by omega]
          · rw [gI_pI, if_neg (by omega), gI_pI, if_neg (by omega), gI_pI, if_pos ⟨rfl, rfl⟩, if_neg (by omega), if_neg (by omega), if_pos rfl]
          · rw [gI_pI, if_neg (by omega), gI_pI, if_neg (by omega), gI_pI, if_neg (by omega), gI_pI, if_pos ⟨rfl, rfl⟩, if_neg (by omega), if_neg (by omega), if_neg (by omega)]⟩
        clear hg2
        have g2i := S2.iv hi0
        have nx := ih (r + 1) g2 (by omega) S2 k2
        have hcb := cnt_le (fun r => dgV m r && ftV (ofV (oMt h0) r) near n) r
        have hfsb := fsV_b (fun r => dgV m r && ftV (ofV (oMt h0) r) near n) r
        refine bX11_fits_98 g2i ⟨fun _ => ⟨fun c => ?_, fun c => ?_⟩, fun c => absurd (by decide) c⟩
        · have hdg : dgV m r = true := by
            cases hh : dgV m r with
            | true => rfl
            | false => rw [hh] at c; exact absurd rfl c
          have htb := tt_b n6 hob r hdg
          rw [hdg]
          -- behind the points
          have last : ∀ v5 : Int32, v5 = iI (fsV (fun r => dgV m r && ftV (ofV (oMt h0) r) near n) (r + 1)) → Vw G jX11_fits 228 [some (.ref 83), some (.int a), some (.int b), some (.int w), some (.int (iI (cnt (fun r => dgV m r && ftV (ofV (oMt h0) r) near n) r : Nat))), some (.int v5), some (.int (iI (oR (fb (dgV m) (fun r => ttV (ofV (oMt h0) r) n) r)))), some (.int (iI (oL (fb (dgV m) (fun r => ttV (ofV (oMt h0) r) n) r)))), some (.int (iI r)), none, some (.int (bL (ftV (ofV (oMt h0) r) near n))), some (.int (iI (ttV (ofV (oMt h0) r) n : Nat))), none, none] [] g2 Q := by
            intro v5 hv5
            rw [hv5]
            have bst : ∀ v4 : Int32, v4 = iI (cnt (fun r => dgV m r && ftV (ofV (oMt h0) r) near n) (r + 1) : Nat) →
                (iI (oR (fb (dgV m) (fun r => ttV (ofV (oMt h0) r) n) r)) = (-1) → Vw G jX11_fits 259 [some (.ref 83), some (.int a), some (.int b), some (.int w), some (.int v4), some (.int (iI (fsV (fun r => dgV m r && ftV (ofV (oMt h0) r) near n) (r + 1)))), none, none, some (.int (iI r)), none, none, some (.int (iI (ttV (ofV (oMt h0) r) n : Nat))), none, none] [] g2 Q) ∧ (¬ iI (oR (fb (dgV m) (fun r => ttV (ofV (oMt h0) r) n) r)) = (-1) → ((iI (ttV (ofV (oMt h0) r) n : Nat) < iI (oL (fb (dgV m) (fun r => ttV (ofV (oMt h0) r) n) r)) → Vw G jX11_fits 259 [some (.ref 83), some (.int a), some (.int b), some (.int w), some (.int v4), some (.int (iI (fsV (fun r => dgV m r && ftV (ofV (oMt h0) r) near n) (r + 1)))), none, none, some (.int (iI r)), none, none, some (.int (iI (ttV (ofV (oMt h0) r) n : Nat))), none, none] [] g2 Q) ∧ (¬ iI (ttV (ofV (oMt h0) r) n : Nat) < iI (oL (fb (dgV m) (fun r => ttV (ofV (oMt h0) r) n) r)) → Vw G jX11_fits 267 [some (.ref 83), some (.int a), some (.int b), some (.int w), some (.int v4), some (.int (iI (fsV (fun r => dgV m r && ftV (ofV (oMt h0) r) near n) (r + 1)))), some (.int (iI (oR (fb (dgV m) (fun r => ttV (ofV (oMt h0) r) n) r)))), some (.int (iI (oL (fb (dgV m) (fun r => ttV (ofV (oMt h0) r) n) r)))), some (.int (iI r)), none, none, none, none, none] [] g2 Q))) := by
              intro v4 hv4
              rw [hv4]
              cases e : fb (dgV m) (fun r => ttV (ofV (oMt h0) r) n) r with
              | none =>
                have hnew := fb_first (mv := fun r => ttV (ofV (oMt h0) r) n) hdg e
                rw [hnew] at nx
                refine ⟨fun _ => bX11_fits_259 g2i (bX11_fits_267 g2i ?_), fun c => absurd (by decide) c⟩
                rw [e1]
                exact nx
              | some x =>
                obtain ⟨r', dd⟩ := x
                obtain ⟨y1, y2⟩ := fb_bg r (fun k _ hk => tt_b n6 hob k hk) r' dd e
                refine ⟨fun c => ?_, fun _ => ⟨fun c => ?_, fun c => ?_⟩⟩
                · rw [m1_iI] at c
                  have c' : iI (r' : Int) = iI (-1) := c
                  rw [iI_eq ⟨by omega, by omega⟩ ⟨by decide, by decide⟩] at c'
                  omega
                · have c' : iI (ttV (ofV (oMt h0) r) n : Nat) < iI (dd : Int) := c
                  rw [lt_n (by omega) (by omega)] at c'
                  have hnew := fb_less (mv := fun r => ttV (ofV (oMt h0) r) n) hdg e c'
                  rw [hnew] at nx
                  refine bX11_fits_259 g2i (bX11_fits_267 g2i ?_)
                  rw [e1]
                  exact nx
                · have c' : ¬ iI (ttV (ofV (oMt h0) r) n : Nat) < iI (dd : Int) := c
                  rw [lt_n (by omega) (by omega)] at c'
                  have hnew := fb_more (g := dgV m) (mv := fun r => ttV (ofV (oMt h0) r) n) e (by show dd ≤ ttV (ofV (oMt h0) r) n; omega)
                  rw [hnew, e] at nx
                  refine bX11_fits_267 g2i ?_
                  rw [e1]
                  exact nx
            refine bX11_fits_228 g2i ⟨fun c => bst _ ?_, fun c => bst _ ?_⟩
            · rw [bL_0] at c
              rw [n_0, ad_n]
              congr 2
              conv => rhs; unfold cnt
              rw [c]; simp
            · rw [n_1, ad_n]
              congr 2
              conv => rhs; unfold cnt
              have hh : ftV (ofV (oMt h0) r) near n = true := by
                cases hh : ftV (ofV (oMt h0) r) near n with
                | true => rfl
                | false => exact absurd (bL_0.mpr hh) c
              rw [hh, hdg]; simp
          have pts : ∀ (e i : Nat), i + e = n → Vw G jX11_fits 165 [some (.ref 83), some (.int a), some (.int b), some (.int w), some (.int (iI (cnt (fun r => dgV m r && ftV (ofV (oMt h0) r) near n) r : Nat))), some (.int (iI (fsV (fun r => dgV m r && ftV (ofV (oMt h0) r) near n) r))), some (.int (iI (oR (fb (dgV m) (fun r => ttV (ofV (oMt h0) r) n) r)))), some (.int (iI (oL (fb (dgV m) (fun r => ttV (ofV (oMt h0) r) n) r)))), some (.int (iI r)), none, some (.int (bL (ftV (ofV (oMt h0) r) near i))), some (.int (iI (ttV (ofV (oMt h0) r) i : Nat))), some (.int (iI i)), none] [] g2 Q := by
            have hgn : gI g2 83 33 = iI n := by rw [S2.gI (o := 83) rfl]; exact hn0
            intro e
            induction e with
            | zero =>
              intro i hin
              have : i = n := by omega
              subst this
              refine bX11_fits_165 g2i ⟨fun _ => ⟨fun c => last _ ?_, fun c => ⟨fun c1 => last _ ?_, fun c1 => last _ ?_⟩⟩, fun c => absurd ?_ c⟩
              · rw [bL_0] at c
                conv => rhs; unfold fsV
                rw [c]
                split
                · rename_i hz; rw [hz]; simp
                · rfl
              · conv => rhs; unfold fsV
                rw [if_neg (fun z => c1 (by rw [z, m1_iI]))]
              · have hh : ftV (ofV (oMt h0) r) near i = true := by
                  cases hh : ftV (ofV (oMt h0) r) near i with
                  | true => rfl
                  | false => exact absurd (bL_0.mpr hh) c
                rw [m1_iI, iI_eq ⟨by omega, by omega⟩ ⟨by decide, by decide⟩] at c1
                conv => rhs; unfold fsV
                rw [if_pos c1, hh, hdg]; simp
              · rw [hgn]; exact Int32.le_refl _
            | succ e ihp =>
              intro i hin
              have hil : i < n := by omega
              have e5 : iI (i : Int) + 1 = iI ((i + 1 : Nat) : Int) := by rw [n_1, ad_n]
              have hib : ofV (oMt h0) r i ≤ 2000 := by
                have hd := hdg
                unfold dgV at hd
                simp at hd
                unfold ofV
                have h1 := hob 0 (r / 1000) (r / 100 % 10) i (by omega) (by omega) (by omega) hil
                have h2 := hob 1 (r / 10 % 10) (r % 10) i (by omega) (by omega) (by omega) hil
                omega
              have nxp := ihp (i + 1) (by omega)
              have htt : ttV (ofV (oMt h0) r) (i + 1) = ttV (ofV (oMt h0) r) i + ofV (oMt h0) r i := rfl
              have hff : ftV (ofV (oMt h0) r) near (i + 1) = (ftV (ofV (oMt h0) r) near i && decide (ofV (oMt h0) r i ≤ near)) := rfl
              rw [htt, hff] at nxp
              refine bX11_fits_165 g2i ⟨fun c => ?_, fun _ => mX11_offOf hi0 tr hrl hm0 hc0 hp0 hil ?_⟩
              · rw [hgn, le_n (by omega) (by omega)] at c
                omega
              · refine bX11_fits_180 g2i ⟨fun c => bX11_fits_204 g2i ?_, fun c => ⟨fun c1 => bX11_fits_204 g2i ?_, fun c1 => ?_⟩⟩
                · rw [bL_0] at c
                  rw [c, Bool.false_and] at nxp
                  rw [ad_n, e5]
                  exact nxp
                · rw [eb, lt_n (by omega) (by omega)] at c1
                  rw [decide_eq_false (by omega), Bool.and_false] at nxp
                  rw [ad_n, e5]
                  exact nxp
                · rw [eb, lt_n (by omega) (by omega)] at c1
                  have hh : ftV (ofV (oMt h0) r) near i = true := by
                    cases hh : ftV (ofV (oMt h0) r) near i with
                    | true => rfl
                    | false => exact absurd (bL_0.mpr hh) c
                  rw [hh, decide_eq_true (by omega)] at nxp
                  rw [ad_n, e5]
                  exact nxp
          have := pts n 0 (by omega)
          exact this
        · rw [bL_0] at c
          refine bX11_fits_267 g2i ?_
          have o1 := cnt_out (g := dgV m) (f := fun r => ftV (ofV (oMt h0) r) near n) (x := r) 1 (fun z h1 h2 => by rw [show z = r from by omega]; exact c)
          have o2 := fsV_out (g := dgV m) (f := fun r => ftV (ofV (oMt h0) r) near n) (x := r) 1 (fun z h1 h2 => by rw [show z = r from by omega]; exact c)
          have o3 := fb_out (g := dgV m) (t := fun r => ttV (ofV (oMt h0) r) n) (x := r) 1 (fun z h1 h2 => by rw [show z = r from by omega]; exact c)
          rw [o1, o2, o3] at nx
          rw [e1]
          exact nx
  have := loop 10000 0 g0 (by omega) hS0 (fun k h4 h12 => hg0 k h12)
  exact this
end FITS5
