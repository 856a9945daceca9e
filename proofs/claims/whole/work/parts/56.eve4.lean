section EVE4
variable {G : GX} {h : mH} {Q : mO → mH → Prop}
theorem and_n (a b : Nat) : iI (a : Int) &&& iI (b : Int) = iI ((a &&& b : Nat) : Int) := by
  apply Int32.toBitVec_inj.mp
  rw [Int32.toBitVec_and]
  show BitVec.ofInt 32 (a : Int) &&& BitVec.ofInt 32 (b : Int) = BitVec.ofInt 32 ((a &&& b : Nat) : Int)
  rw [BitVec.ofInt_natCast, BitVec.ofInt_natCast, BitVec.ofInt_natCast]
  apply BitVec.eq_of_getLsbD_eq
  intro i hi
  simp [BitVec.getLsbD_ofNat, hi]
theorem xor_n (a b : Nat) : iI (a : Int) ^^^ iI (b : Int) = iI ((a ^^^ b : Nat) : Int) := by
  apply Int32.toBitVec_inj.mp
  rw [Int32.toBitVec_xor]
  show BitVec.ofInt 32 (a : Int) ^^^ BitVec.ofInt 32 (b : Int) = BitVec.ofInt 32 ((a ^^^ b : Nat) : Int)
  rw [BitVec.ofInt_natCast, BitVec.ofInt_natCast, BitVec.ofInt_natCast]
  apply BitVec.eq_of_getLsbD_eq
  intro i hi
  simp [BitVec.getLsbD_ofNat, hi]
theorem bt_tb (R y : Nat) : bt R y = R.testBit y := by
  unfold bt
  rw [Nat.testBit_eq_decide_div_mod_eq]
  by_cases c : R / 2 ^ y % 2 = 1
  · rw [decide_eq_true c, c]; rfl
  · rw [decide_eq_false c]; exact beq_false_of_ne c
def subM (R S : Nat) : Prop := ∀ y, y < 8 → bt R y = true → bt S y = true
theorem sub_and {R S : Nat} (hR : R < 256) : R &&& S = R ↔ subM R S := by
  constructor
  · intro e y hy hb
    rw [bt_tb] at hb ⊢
    rw [← e, Nat.testBit_and, Bool.and_eq_true] at hb
    exact hb.2
  · intro hs
    refine Nat.eq_of_testBit_eq (fun i => ?_)
    rw [Nat.testBit_and]
    by_cases c : i < 8
    · cases e : R.testBit i with
      | false => rfl
      | true =>
        have := hs i c (by rw [bt_tb]; exact e)
        rw [bt_tb] at this
        rw [this]; rfl
    · have : R.testBit i = false := Nat.testBit_lt_two_pow (Nat.lt_of_lt_of_le hR (Nat.pow_le_pow_right (n := 2) (by omega) (show 8 ≤ i by omega)))
      rw [this]; rfl
theorem bt_xor (R S y : Nat) : bt (S ^^^ R) y = (bt S y != bt R y) := by
  rw [bt_tb, bt_tb, bt_tb, Nat.testBit_xor]
def TB (D : Nat → Nat → Nat) (S : Nat) (g : mH) : Prop := ∀ R x, R < 256 → x < 8 → subM R S → bt S x = true → bt R x = false → tbR D g R x
theorem mX0_withTea {D : Nat → Nat → Nat} {np l w y : Nat} {e : Nat → Nat} (hi : Iv h) (hD : ∀ x y, D x y ≤ 100) (h8 : np ≤ 8) (hap : apR D np h) (hl : l ≤ 8) (he : ∀ i, i < l → e i < np) (hy : y < np) (hw : w ≤ 1000000) (k : Q (.inl (some (.int (iI (wSt D e l w y : Nat))))) h) : WM G jX0_withTea [.ref 75, .int (iI (prv e l : Nat)), .int (iI y), .int (iI (Cp D e 0 l : Nat)), .int (iI w)] h Q := by
  have c0 := Cp_b hD e 0 l
  have d0 := hD (prv e l) y
  have d9 := hD 9 y
  have pb : prv e l ≤ 8 ∧ (prv e l < np ∨ prv e l = 8) ∧ (prv e l = 8 ↔ l = 0) := by
    unfold prv
    split
    · exact ⟨by omega, .inr rfl, ⟨fun _ => by assumption, fun _ => rfl⟩⟩
    · have := he (l - 1) (by omega)
      exact ⟨by omega, .inl this, ⟨fun _ => by omega, fun _ => by omega⟩⟩
  obtain ⟨p1, p2, p3⟩ := pb
  unfold wSt at k
  refine eX0_withTea hi ⟨fun c => ?_, fun c => ?_⟩
  · rw [n_8, eq_n (by omega) (by omega), p3] at c
    rw [if_neg c] at k
    rw [show (9 : Int32) = iI ((9 : Nat) : Int) from by decide, apart_iI, apart_iI, ix_n (by omega), ix_n (by omega), hap 9 y hy (by omega), hap (prv e l) y hy (by omega), ad_n, ad_n, min_n (by omega) (by omega)]
    exact ⟨in_n (by omega) (by omega), in_n (by omega) (by omega), k⟩
  · rw [n_8, eq_n (by omega) (by omega), p3] at c
    rw [if_pos c] at k
    rw [apart_iI, ix_n (by omega), hap (prv e l) y hy (by omega), ad_n, n_1000000, min_n (by omega) (by omega)]
    exact ⟨in_n (by omega) (by omega), k⟩
theorem mX0_through {D : Nat → Nat → Nat} {np S n l w y R : Nat} {e : Nat → Nat} (hi : Iv h) (hD : ∀ x y, D x y ≤ 100) (h8 : np ≤ 8) (hap : apR D np h) (hS8 : ∀ y, y < 8 → bt S y = true → y < np) (hTB : TB D S h) (hl : l ≤ 8) (hx : px S n e l R) (hy : y < 8) (hb : bt R y = true) (hw : w ≤ 1000000) (k : Q (.inl (some (.int (iI (thr D e l w R y : Nat))))) h) : WM G jX0_through [.ref 75, .int (iI R), .int (iI (prv e l : Nat)), .int (iI y), .int (iI (Cp D e 0 l : Nat)), .int (iI w)] h Q := by
  have hR := hx.2.2.1
  obtain ⟨r1, r2, r3⟩ := bt_rm R hR y hy hb
  have he : ∀ i, i < l → e i < np := fun i hi => hS8 _ (hx.1 i hi).1 (hx.1 i hi).2
  have hyS := ((hx.2.2.2.1 y hy).mp hb).1
  have hyn := hS8 y hy hyS
  have c0 := Cp_b hD e 0 l
  have d0 := hD (prv e l) y
  have p8 := pc_8 (rm R y)
  have f0 := frV_b hD (pc (rm R y)) (rm R y) y (by omega) rfl
  have s0 := rsV_b hD (pc (rm R y)) (rm R y) y (by omega) rfl
  have w0 : wSt D e l w y ≤ 1000100 := by
    unfold wSt
    exact Nat.le_trans (Nat.min_le_left _ _) (by omega)
  have pb : prv e l ≤ 8 ∧ (prv e l < np ∨ prv e l = 8) := by
    unfold prv
    split
    · exact ⟨by omega, .inr rfl⟩
    · have := he (l - 1) (by omega)
      exact ⟨by omega, .inl this⟩
  obtain ⟨t1, t2⟩ := hTB (rm R y) y (by omega) hy (fun z hz hbz => by
    rw [r2 z hz, Bool.and_eq_true] at hbz
    exact ((hx.2.2.2.1 z hz).mp hbz.1).1) hyS (by rw [r2 y hy]; simp)
  refine eX0_through hi ?_
  rw [(xor_v R hR y hy hb).1, apart_iI, state_iI, ix_n (by omega), ix_n (by omega), hap (prv e l) y hyn (by omega), t1, ad_n, ad_n]
  refine ⟨in_n (by omega) (by omega), in_n (by omega) (by omega), mX0_withTea hi hD h8 hap hl he hyn hw (bX0_through_46 hi ?_)⟩
  rw [ix_n (by omega), t2, ad_n, min_n (by omega) (by omega)]
  exact ⟨in_n (by omega) (by omega), k⟩
theorem mX0_costWithTea {D : Nat → Nat → Nat} {np n b : Nat} {e : Nat → Nat} (hi : Iv h) (hD : ∀ x y, D x y ≤ 100) (h8 : np ≤ 8) (hap : apR D np h) (hn8 : n ≤ 8) (hn : gI h 75 1 = iI n) (he : ∀ i, i < n → gI h 76 i = iI (e i : Nat) ∧ e i < np) (hb : 0 < b) (hbn : b < n) (k : Q (.inl (some (.int (iI (Cp D e b n : Nat))))) h) : WM G jX0_costWithTea [.ref 75, .int (iI b)] h Q := by
  refine eX0_costWithTea hi ?_
  rw [n_0, n_8]
  have loop : ∀ (d i : Nat), i + d = n → Vw G jX0_costWithTea 8 [some (.ref 75), some (.int (iI b)), some (.int (iI (Cp D e b i : Nat))), some (.int (iI (prv e i : Nat))), some (.int (iI i))] [] h Q := by
    intro d
    induction d with
    | zero =>
      intro i hin
      have : i = n := by omega
      subst this
      refine bX0_costWithTea_8 hi ⟨fun _ => k, fun z => absurd ?_ z⟩
      rw [hn]; exact Int32.le_refl _
    | succ d ih =>
      intro i hin
      have hil : i < n := by omega
      have e1 : iI (i : Int) + 1 = iI ((i + 1 : Nat) : Int) := by rw [n_1, ad_n]
      obtain ⟨g1, g2⟩ := he i hil
      have nx := ih (i + 1) (by omega)
      rw [prv_s] at nx
      have pb : prv e i ≤ 8 ∧ (prv e i < np ∨ prv e i = 8) := by
        unfold prv
        split
        · exact ⟨by omega, .inr rfl⟩
        · have := (he (i - 1) (by omega)).2
          exact ⟨by omega, .inl this⟩
      refine bX0_costWithTea_8 hi ⟨fun z => ?_, fun _ => ?_⟩
      · rw [hn, le_n (by omega) (by omega)] at z
        omega
      · rw [ix_n (by omega), g1, apart_iI, show (9 : Int32) = iI ((9 : Nat) : Int) from by decide, apart_iI, ix_n (by omega), ix_n (by omega), hap (prv e i) (e i) g2 (by omega), hap 9 (e i) g2 (by omega), ad_n, ad_n, e1]
        refine ⟨fun z => ⟨in_n (by omega) (by omega), in_n (by omega) (by omega), in_n (by omega) (by omega), ?_⟩, fun z => ⟨in_n (by omega) (by omega), in_n (by omega) (by omega), in_n (by omega) (by omega), ?_⟩⟩
        · rw [eq_n (by omega) (by omega)] at z
          have hC : Cp D e b (i + 1) = Cp D e b i + D (prv e i) (e i) := by
            conv => lhs; unfold Cp
            unfold frm
            rw [if_neg (by omega)]
          rw [hC] at nx
          exact nx
        · rw [eq_n (by omega) (by omega)] at z
          have hC : Cp D e b (i + 1) = Cp D e b i + D 9 (e i) := by
            conv => lhs; unfold Cp
            unfold frm
            rw [if_pos (by omega)]
          rw [hC] at nx
          exact nx
  exact loop n 0 (by omega)
theorem mX0_soonestTea {D : Nat → Nat → Nat} {np n M : Nat} {e : Nat → Nat} (hi : Iv h) (hD : ∀ x y, D x y ≤ 100) (h8 : np ≤ 8) (hap : apR D np h) (hn8 : n ≤ 8) (hn0 : 0 < n) (hn : gI h 75 1 = iI n) (he : ∀ i, i < n → gI h 76 i = iI (e i : Nat) ∧ e i < np) (hM : M ≤ 2000) (hex : ∃ b, 0 < b ∧ b < n ∧ Cp D e b n = M)
    (k : ∀ t, 0 < t → t < n → Cp D e t n = M → (∀ b, 0 < b → b < t → Cp D e b n ≠ M) → Q (.inl (some (.int (iI t)))) h) : WM G jX0_soonestTea [.ref 75, .int (iI M)] h Q := by
  refine eX0_soonestTea hi ?_
  rw [n_1]
  have loop : ∀ (d b : Nat), b + d = n → 0 < b → (∀ b', 0 < b' → b' < b → Cp D e b' n ≠ M) → Vw G jX0_soonestTea 2 [some (.ref 75), some (.int (iI M)), some (.int (iI b))] [] h Q := by
    intro d
    induction d with
    | zero =>
      intro b hb b0 hz
      obtain ⟨x, x0, x1, x2⟩ := hex
      exact absurd x2 (hz x x0 (by omega))
    | succ d ih =>
      intro b hb b0 hz
      have e1 : iI (b : Int) + 1 = iI ((b + 1 : Nat) : Int) := by rw [n_1, ad_n]
      have cb := Cp_b hD e b n
      refine bX0_soonestTea_2 hi ⟨fun z => ?_, fun _ => mX0_costWithTea hi hD h8 hap hn8 hn he b0 (by omega) (bX0_soonestTea_15 hi ⟨fun z => ?_, fun z => ?_⟩)⟩
      · rw [hn, le_n (by omega) (by omega)] at z
        omega
      · rw [eq_n (by omega) (by omega)] at z
        rw [e1]
        refine ih (b + 1) (by omega) (by omega) (fun b' h1 h2 => ?_)
        by_cases c : b' = b
        · subst c; exact z
        · exact hz b' h1 (by omega)
      · rw [eq_n (by omega) (by omega)] at z
        exact k b b0 (by omega) z hz
  exact loop (n - 1) 1 (by omega) (by omega) (fun b' h1 h2 => absurd h1 (by omega))
def oM : Option (Nat × Nat) → Nat | none => 1000000 | some (_, c) => c
def oZ : Option (Nat × Nat) → Nat | none => 0 | some (r, _) => r
theorem oM_s (r c : Nat) : oM (some (r, c)) = c := rfl
theorem oZ_s (r c : Nat) : oZ (some (r, c)) = r := rfl
def chS (o : Nat) : Bool := o == 75 || (o == 76)
theorem mX0_choose {D : Nat → Nat → Nat} {np S n : Nat} (hi : Iv h) (hD : ∀ x y, D x y ≤ 100) (h8 : np ≤ 8) (hap : apR D np h) (hS : S < 256) (hn : n = pc S) (hn0 : 0 < n) (hS8 : ∀ y, y < 8 → bt S y = true → y < np) (hTB : TB D S h)
    (k : ∀ g v e t, Sm chS h g → (∀ j, j ≠ 1 → j ≠ 2 → gI g 75 j = gI h 75 j) → gI g 75 1 = iI n → gI g 75 2 = iI (t : Nat) → (∀ i, i < n → gI g 76 i = iI (e i : Nat)) → fsb D S n v e t → Q (.inl (some (.int (iI (v : Nat))))) g) : WM G jX0_choose [.ref 75, .int (iI S)] h Q := by
  have n8 : n ≤ 8 := by rw [hn]; exact pc_8 S
  have apc : ∀ {g : mH}, Sm chS h g → apR D np g := fun hs x y hy hx => by rw [hs.gI (o := 77) rfl]; exact hap x y hy hx
  have tbc : ∀ {g : mH}, Sm chS h g → TB D S g := fun hs R x a b c d e => by
    obtain ⟨t1, t2⟩ := hTB R x a b c d e
    exact ⟨by rw [hs.gI (o := 78) rfl]; exact t1, by rw [hs.gI (o := 79) rfl]; exact t2⟩
  refine eX0_choose hi ?_
  have main : ∀ (q l : Nat) (e : Nat → Nat) (R w M : Nat) (g : mH) (v6 : Int32), l + q = n → Sm chS h g → (∀ j, j ≠ 1 → j ≠ 2 → gI g 75 j = gI h 75 j) → gI g 75 1 = iI l → (∀ i, i < l → gI g 76 i = iI (e i : Nat)) → px S n e l R → wOk D e l w → (l = 0 ∨ (chI D S n e l M ∧ v6 = iI (M : Nat))) →
      Vw G jX0_choose 21 [some (.ref 75), none, some (.int (iI R)), some (.int (iI (prv e l : Nat))), some (.int (iI (Cp D e 0 l : Nat))), some (.int (iI w)), some (.int v6), none, none, none] [] g Q := by
    intro q
    induction q with
    | zero =>
      intro l e R w M g v6 hl hg h75 hgl hge hx hw hc
      have : l = n := by omega
      subst this
      have gi := hg.iv hi
      have hR0 : R = 0 := pc_0 R hx.2.2.1 (by have := hx.2.2.2.2; omega)
      rcases hc with hc | ⟨hc, hv⟩
      · omega
      · subst hv
        have he : ∀ i, i < l → gI g 76 i = iI (e i : Nat) ∧ e i < np := fun i hi => ⟨hge i hi, hS8 _ (hx.1 i hi).1 (hx.1 i hi).2⟩
        have c0 := Cp_b hD e 0 l
        have hMb : M ≤ 2000 := by
          have := hc.1 e 0 (px_n hx) hn0
          omega
        have fin : ∀ t, t < l → Cp D e t l = M → (∀ b, b < t → Cp D e b l ≠ M) → Vw G jX0_choose 183 [none, none, none, none, none, none, some (.int (iI M)), none, none, none] [.int (iI (t : Nat)), .ref 75] g Q := fun t ht h1 h2 => by
          refine bX0_choose_183 gi (k _ M e t (hg.pI rfl _ _) (fun j j1 j2 => ?_) ?_ ?_ (fun i hi => ?_) (chI_fsb hx hc ht h1 h2))
          · rw [gI_pI, if_neg (by omega)]; exact h75 j j1 j2
          · rw [gI_pI, if_neg (by omega)]; exact hgl
          · rw [gI_pI, if_pos ⟨rfl, rfl⟩]
          · rw [gI_pI, if_neg (by omega)]; exact hge i hi
        have fin0 := fin 0 hn0
        refine bX0_choose_21 gi ⟨fun _ => bX0_choose_165 gi ⟨fun z => ?_, fun z => ?_⟩, fun z => absurd (by rw [hR0]; decide) z⟩
        · rw [eq_n (by omega) (by omega)] at z
          obtain ⟨m, b, m1, m2, m3, m4⟩ := hc.2.2
          rw [Cp_cg b l m3] at m4
          have b0 : 0 < b := by
            refine Nat.pos_of_ne_zero (fun y => z ?_)
            subst y; exact m4
          refine mX0_soonestTea gi hD h8 (apc hg) n8 hn0 hgl he hMb ⟨b, b0, m2, m4⟩ (fun t t0 t1 t2 t3 => ?_)
          exact fin t t1 t2 (fun b hb => by
            by_cases y : b = 0
            · subst y; exact z
            · exact t3 b (by omega) hb)
        · rw [eq_n (by omega) (by omega)] at z
          rw [n_0]
          exact fin0 z (fun b hb => absurd hb (by omega))
    | succ q ih =>
      intro l e R w M g v6 hl hg h75 hgl hge hx hw hc
      have gi := hg.iv hi
      have hR := hx.2.2.1
      have hln : l < n := by omega
      have hpc : 0 < pc R := by have := hx.2.2.2.2; omega
      have hRn : R ≠ 0 := fun z => by rw [z] at hpc; exact absurd hpc (by decide)
      have hw6 := hw.2.2
      refine bX0_choose_21 gi ⟨fun z => ?_, fun _ => ⟨fun z => ?_, fun _ => ?_⟩⟩
      · rw [n_0, eq_n (by omega) (by omega)] at z
        exact absurd z hRn
      · rw [hgl, n_8, le_n (by omega) (by omega)] at z
        omega
      · rw [n_1000000, n_0]
        have sel : ∀ (d y : Nat), y + d = 8 → Vw G jX0_choose 44 [some (.ref 75), none, some (.int (iI R)), some (.int (iI (prv e l : Nat))), some (.int (iI (Cp D e 0 l : Nat))), some (.int (iI w)), some (.int (iI (oM (fb (bt R) (thr D e l w R) y) : Nat))), some (.int (iI (oZ (fb (bt R) (thr D e l w R) y) : Nat))), some (.int (iI y)), none] [] g Q := by
          intro d
          induction d with
          | zero =>
            intro y hy
            have : y = 8 := by omega
            subst this
            cases hf : fb (bt R) (thr D e l w R) 8 with
            | none =>
              obtain ⟨y, y1, y2⟩ := pc_pos R hR hpc
              rw [(fb_sp 8).2 hf y y1] at y2
              cases y2
            | some x =>
              obtain ⟨r, M'⟩ := x
              obtain ⟨r8, rb, rM, rl⟩ := (fb_sp 8).1 r M' hf
              have hrS := ((hx.2.2.2.1 r r8).mp rb).1
              have hrn := hS8 r r8 hrS
              have he : ∀ i, i < l → e i < np := fun i hi => hS8 _ (hx.1 i hi).1 (hx.1 i hi).2
              have pb : prv e l ≤ 8 ∧ (prv e l < np ∨ prv e l = 8) := by
                unfold prv
                split
                · exact ⟨by omega, .inr rfl⟩
                · have := he (l - 1) (by omega)
                  exact ⟨by omega, .inl this⟩
              rw [oM_s, oZ_s]
              refine bX0_choose_44 gi ⟨fun _ => ?_, fun z => absurd (by decide) z⟩
              refine mX0_withTea gi hD h8 (apc hg) (by omega) he hrn hw6 (bX0_choose_111 gi ?_)
              rw [apart_iI, ix_n (by omega), apc hg (prv e l) r hrn (by omega), ad_n, hgl, ix_n (by omega)]
              refine ⟨in_n (by omega) (by omega), in_n (by omega) (by omega), ?_⟩
              rw [(xor_v R hR r r8 rb).2, show gI (pI g 76 l (iI (r : Nat))) 75 1 = iI l from by rw [gI_pI, if_neg (by omega)]; exact hgl, n_1, ad_n]
              have he1 : ∀ i, i < l → (fun i => if i = l then r else e i) i = e i := fun i hi => if_neg (by omega)
              have he2 : (fun i => if i = l then r else e i) l = r := if_pos rfl
              have res := ih (l + 1) (fun i => if i = l then r else e i) (rm R r) (wSt D e l w r) M' (pI (pI g 76 l (iI (r : Nat))) 75 1 (iI ((l + 1 : Nat) : Int))) (iI (M' : Nat)) (by omega) ((hg.pI rfl _ _).pI rfl _ _) (fun j j1 j2 => by rw [gI_pI, if_neg (by omega), gI_pI, if_neg (by omega)]; exact h75 j j1 j2) (by rw [gI_pI, if_pos ⟨rfl, rfl⟩]) (fun i hi => ?_) (px_s hx r8 rb he1 he2) (wOk_s hD (by omega) hw he1 he2) (.inr ⟨chI_s hD hln (by omega) hx hw (hc.imp id (fun z => z.1)) hf he1 he2, rfl⟩)
              · have hC : Cp D (fun i => if i = l then r else e i) 0 (l + 1) = Cp D e 0 l + D (prv e l) r := by
                  conv => lhs; unfold Cp
                  rw [Cp_cg 0 l he1]
                  unfold frm
                  rw [if_neg (by omega), if_pos rfl]
                  congr 2
                  unfold prv
                  split
                  · rfl
                  · exact he1 (l - 1) (by omega)
                rw [prv_s, hC, if_pos rfl] at res
                exact res
              · rw [gI_pI, if_neg (by omega), gI_pI]
                by_cases c : i = l
                · subst c
                  rw [if_pos ⟨rfl, rfl⟩, if_pos rfl]
                · rw [if_neg (by omega), if_neg c]
                  exact hge i (by omega)
          | succ d ihd =>
            intro y hy
            have hy8 : y < 8 := by omega
            have e1 : iI (y : Int) + 1 = iI ((y + 1 : Nat) : Int) := by rw [n_1, ad_n]
            have nx := ihd (y + 1) (by omega)
            have ob : oM (fb (bt R) (thr D e l w R) y) ≤ 1000000 := by
              cases hf : fb (bt R) (thr D e l w R) y with
              | none => exact Nat.le_refl _
              | some x =>
                obtain ⟨r, d⟩ := x
                obtain ⟨a, b, c, _⟩ := (fb_sp y).1 r d hf
                have := thr_b hD (e := e) (w := w) (show l ≤ 8 by omega) hR (by omega) b
                show d ≤ 1000000
                omega
            refine bX0_choose_44 gi ⟨fun z => ?_, fun _ => ⟨fun z => ⟨fun _ => ?_, fun y => ?_⟩, fun z => ?_⟩⟩
            · rw [n_8, le_n (by omega) (by omega)] at z
              omega
            · rw [has_v R hR y hy8, bL_0] at z
              refine bX0_choose_94 gi ?_
              rw [e1]
              rw [fb_skip z] at nx
              exact nx
            · rw [n_1000000, le_n (by omega) (by omega)] at y
              omega
            · have hb : bt R y = true := by
                cases hh : bt R y with
                | true => rfl
                | false => rw [has_v R hR y hy8, hh] at z; exact absurd rfl z
              have tb := thr_b hD (e := e) (w := w) (show l ≤ 8 by omega) hR hy8 hb
              refine mX0_through gi hD h8 (apc hg) hS8 (tbc hg) (by omega) hx hy8 hb hw6 (bX0_choose_72 gi ⟨fun z => bX0_choose_94 gi ?_, fun z => bX0_choose_94 gi ?_⟩)
              · rw [le_n (by omega) (by omega)] at z
                rw [e1]
                cases hf : fb (bt R) (thr D e l w R) y with
                | none =>
                  rw [hf] at z
                  have z' : 1000000 ≤ thr D e l w R y := z
                  omega
                | some x =>
                  obtain ⟨r, d⟩ := x
                  rw [hf] at z
                  rw [fb_more hf z, hf] at nx
                  exact nx
              · rw [le_n (by omega) (by omega)] at z
                rw [e1]
                have hnew : fb (bt R) (thr D e l w R) (y + 1) = some (y, thr D e l w R y) := by
                  cases hf : fb (bt R) (thr D e l w R) y with
                  | none => exact fb_first hb hf
                  | some x =>
                    obtain ⟨r, d⟩ := x
                    rw [hf] at z
                    exact fb_less hb hf (by have z' : ¬ d ≤ thr D e l w R y := z; omega)
                rw [hnew] at nx
                exact nx
        exact sel 8 0 (by omega)
  have := main n 0 (fun _ => 0) S 1000000 0 (pI h 75 1 0) (iI ((1000000 : Nat) : Int)) (by omega) (Sm.rf.pI rfl _ _) (fun j j1 _ => by rw [gI_pI, if_neg (by omega)]) (by rw [gI_pI, if_pos ⟨rfl, rfl⟩]; exact n_0) (fun i hi => absurd hi (by omega)) (px_0 hS hn _) ⟨fun b b0 bl => by omega, .inl rfl, Nat.le_refl _⟩ (.inl rfl)
  rw [n_8, n_1000000]
  exact this
end EVE4
