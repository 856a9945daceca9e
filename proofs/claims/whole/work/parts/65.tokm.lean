section TOKM
variable {G : GX} {h : mH} {Q : mO → mH → Prop}
/-- all but some cells, and the model's long, are as they were -/
def Cj (S : Nat → Nat → Bool) (h h' : mH) : Prop := h'.1 = h.1 ∧ h'.2.2.2 = h.2.2.2 ∧ (∀ o, o ≠ 83 → h'.2.2.1 o = h.2.2.1 o) ∧ ∀ o k, S o k = false → gI h' o k = gI h o k
theorem Cj.rf {S : Nat → Nat → Bool} {h : mH} : Cj S h h := ⟨rfl, rfl, fun _ _ => rfl, fun _ _ _ => rfl⟩
theorem Cj.tr {S : Nat → Nat → Bool} {a b c : mH} (h1 : Cj S a b) (h2 : Cj S b c) : Cj S a c := ⟨h2.1.trans h1.1, h2.2.1.trans h1.2.1, fun o ho => (h2.2.2.1 o ho).trans (h1.2.2.1 o ho), fun o k ho => (h2.2.2.2 o k ho).trans (h1.2.2.2 o k ho)⟩
theorem Cj.wk {S T : Nat → Nat → Bool} {h h' : mH} (hs : Cj S h h') (hT : ∀ o k, T o k = false → S o k = false) : Cj T h h' := ⟨hs.1, hs.2.1, hs.2.2.1, fun o k ho => hs.2.2.2 o k (hT o k ho)⟩
theorem Ce.cj {S : Nat → Nat → Bool} {h h' : mH} (hs : Ce S h h') : Cj S h h' := ⟨hs.1, by rw [hs.2.1], fun o _ => by rw [hs.2.1], hs.2.2⟩
theorem Cj.pI {S : Nat → Nat → Bool} {h h' : mH} (hs : Cj S h h') {o k : Nat} (ho : S o k = true) (v : Int32) : Cj S h (pI h' o k v) := by
  refine ⟨hs.1, hs.2.1, hs.2.2.1, fun q j hq => ?_⟩
  rw [gI_pI, if_neg (fun e => by rw [e.1, e.2, ho] at hq; cases hq)]
  exact hs.2.2.2 q j hq
theorem Cj.pJ {S : Nat → Nat → Bool} {h h' : mH} (hs : Cj S h h') (k : Nat) (v : Int64) : Cj S h (pJ h' 83 k v) := by
  refine ⟨hs.1, hs.2.1, fun o ho => ?_, hs.2.2.2⟩
  rw [← hs.2.2.1 o ho]
  unfold _root_.Jvm.Pilot.CPenSwingsLaw_law_r2440_7aaa7a.pJ
  simp [ho]
theorem Cj.iv {S : Nat → Nat → Bool} {h h' : mH} (hs : Cj S h h') (hi : Iv h) : Iv h' := by
  obtain ⟨e1, e2, -, -⟩ := hs
  unfold Iv at hi ⊢
  rw [e1, e2]
  exact hi
theorem lg_0 (x y : Int64) : lg_cmp x y = 0 ↔ x = y := by
  unfold lg_cmp
  split
  · rename_i c
    refine ⟨fun z => absurd z (by decide), fun z => ?_⟩
    rw [z] at c
    exact absurd c (fun w => Int64.lt_irrefl w)
  · split
    · rename_i c; exact ⟨fun _ => c, fun _ => rfl⟩
    · rename_i c; exact ⟨fun z => absurd z (by decide), fun z => absurd z c⟩
theorem pk_or (a d : Nat) (ha : a < 2 ^ 40) (hd : d < 32) : (Int64.ofNat a <<< (Int32.toInt64 5 &&& 63)) ||| Int64.ofNat d = Int64.ofNat (32 * a + d) := by
  apply Int64.toBitVec_inj.mp
  simp
  apply BitVec.eq_of_toNat_eq
  have e1 : (BitVec.ofNat 64 a).toNat = a := by rw [BitVec.toNat_ofNat]; omega
  have e2 : (BitVec.ofNat 64 d).toNat = d := by rw [BitVec.toNat_ofNat]; omega
  have e3 : a <<< 5 = 32 * a := by rw [Nat.shiftLeft_eq]; omega
  rw [BitVec.toNat_or, BitVec.toNat_shiftLeft, BitVec.toNat_add, BitVec.toNat_mul, e1, e2, e3]
  rw [Nat.mod_eq_of_lt (show 32 * a < 2 ^ 64 by omega)]
  rw [← e3, ← Nat.shiftLeft_add_eq_or_of_lt (show d < 2 ^ 5 by omega), e3]
  have e4 : (32#64).toNat = 32 := rfl
  rw [e4]
  omega
theorem pk_lg : ∀ d : Nat, d < 32 → Int32.toInt64 (iI (d : Int)) = Int64.ofNat d := by decide
theorem pkn_eq (a b : Nat) (ha : a < 2 ^ 60) (hb : b < 2 ^ 60) : Int64.ofNat a = Int64.ofNat b ↔ a = b := by
  constructor
  · intro h
    have := congrArg Int64.toBitVec h
    have := congrArg BitVec.toNat this
    simp at this
    omega
  · intro h; rw [h]
def pkF (d : Nat → Nat) : Nat → Nat
  | 0 => 0
  | m + 1 => 32 * pkF d m + d m
theorem pkF_b {d : Nat → Nat} : ∀ m, (∀ i, i < m → d i < 32) → pkF d m < 32 ^ m
  | 0, _ => by show 0 < 1; omega
  | m + 1, h => by
    have h1 := pkF_b m (fun i hi => h i (by omega))
    have h2 := h m (by omega)
    unfold pkF
    rw [Nat.pow_succ]
    omega
theorem pkF_inj {d e : Nat → Nat} : ∀ L M, (∀ i, i < L → 1 ≤ d i ∧ d i < 32) → (∀ i, i < M → 1 ≤ e i ∧ e i < 32) → pkF d L = pkF e M → L = M ∧ ∀ i, i < L → d i = e i
  | 0, 0, _, _, _ => ⟨rfl, fun i hi => absurd hi (by omega)⟩
  | 0, M + 1, _, he, h => by
    have := he M (by omega)
    unfold pkF at h
    omega
  | L + 1, 0, hd, _, h => by
    have := hd L (by omega)
    unfold pkF at h
    omega
  | L + 1, M + 1, hd, he, h => by
    have a := hd L (by omega)
    have b := he M (by omega)
    have h' : 32 * pkF d L + d L = 32 * pkF e M + e M := h
    obtain ⟨i1, i2⟩ := pkF_inj L M (fun i hi => hd i (by omega)) (fun i hi => he i (by omega)) (by omega)
    subst i1
    refine ⟨rfl, fun i hi => ?_⟩
    by_cases c : i = L
    · subst c; omega
    · exact i2 i (by omega)
/-- bytes of the model -/
def ZM (z : Nat → Int) (g : mH) : Prop := ∀ i, i < 400 → gI g 89 i = iI (z i % 256) ∧ -128 ≤ z i ∧ z i ≤ 127
def soT (z : Nat → Int) (n f : Nat) : Nat := if kdT z n f = 3 then (if z f = 59 ∨ z f = 45 ∨ z f = 40 ∨ z f = 41 then 3 else 4) else kdT z n f
def leT (z : Nat → Int) (f i : Nat) : Nat := (z (f + i) - 96).toNat
def TM (z : Nat → Int) (n f : Nat) (g : mH) : Prop := gI g 83 13 = iI (n : Nat) ∧ gI g 83 14 = iI (enT z n f : Nat) ∧ gI g 83 15 = iI (soT z n f : Nat) ∧ gI g 83 16 = iI (f : Nat) ∧ gI g 83 17 = iI ((enT z n f - f : Nat) : Int) ∧ (kdT z n f = 2 → gI g 83 18 = iI (vlT z f (min 3 (enT z n f - f)))) ∧ (kdT z n f = 3 → gI g 83 19 = iI (z f % 256)) ∧ (kdT z n f = 1 → gJ g 83 20 = Int64.ofNat (pkF (leT z f) (min 8 (enT z n f - f))))
theorem c256 {z : Int} (h1 : -128 ≤ z) (h2 : z ≤ 127) : cL (z % 256) = cL z ∧ cD (z % 256) = cD z ∧ cB (z % 256) = cB z ∧ 0 ≤ z % 256 ∧ z % 256 ≤ 255 := by
  have e : z % 256 = z ∨ (z < 0 ∧ z % 256 = z + 256) := by omega
  unfold cL cD cB
  refine ⟨decide_eq_decide.mpr (by omega), decide_eq_decide.mpr (by omega), decide_eq_decide.mpr (by omega), by omega, by omega⟩
def bzT (z : Nat → Int) (n i : Nat) : Int := if i < n then z i % 256 else 0
theorem bzT_c {z : Nat → Int} {n i : Nat} (hb : i < n → -128 ≤ z i ∧ z i ≤ 127) : cL (bzT z n i) = (decide (i < n) && cL (z i)) ∧ cD (bzT z n i) = (decide (i < n) && cD (z i)) ∧ 0 ≤ bzT z n i ∧ bzT z n i ≤ 255 := by
  unfold bzT
  by_cases c : i < n
  · obtain ⟨a, b⟩ := hb c
    obtain ⟨c1, c2, c3, c4, c5⟩ := c256 a b
    rw [if_pos c, c1, c2, decide_eq_true c]
    exact ⟨rfl, rfl, c4, c5⟩
  · rw [if_neg c, decide_eq_false c]
    exact ⟨rfl, rfl, by omega, by omega⟩
theorem mX11_byteAt {z : Nat → Int} {n i : Nat} (hi : Iv h) (hz : ZM z h) (hn4 : n ≤ 400) (h13 : gI h 83 13 = iI n) (hi4 : i ≤ 400) (k : Q (.inl (some (.int (iI (bzT z n i))))) h) : WM G jX11_byteAt [.ref 83, .int (iI i)] h Q := by
  unfold bzT at k
  refine eX11_byteAt hi ?_
  rw [h13, le_n (by omega) (by omega), ix_n (by omega)]
  refine ⟨fun c => ?_, fun c => ⟨in_n (by omega) (by omega), ?_⟩⟩
  · rw [if_neg (by omega)] at k; exact k
  · rw [if_pos (by omega)] at k
    rw [(hz i (by omega)).1]; exact k
theorem isLm_b {x : Int} (hx : r31 x) : fX11_isLetter (iI x) = bL (cL x) := isL_b hx
theorem isDm_b {x : Int} (hx : r31 x) : fX11_isDigit (iI x) = bL (cD x) := isD_b hx
def smS (o k : Nat) : Bool := o == 83 && decide (14 ≤ k ∧ k ≤ 19)
theorem mX11_steps {z : Nat → Int} {n a : Nat} (hi : Iv h) (hz : ZM z h) (hn4 : n ≤ 400) (ha : a ≤ n) (h13 : gI h 83 13 = iI n) (h14 : gI h 83 14 = iI a) (k : ∀ g, Cj smS h g → TM z n (rn cB z n a) g → Q (.inl none) g) : WM G jX11_steps [.ref 83] h Q := by
  have zc : ∀ {g : mH}, Cj smS h g → ZM z g := fun hC i hi => by rw [hC.2.2.2 89 i rfl]; exact hz i hi
  have z13 : ∀ {g : mH}, Cj smS h g → gI g 83 13 = iI n := fun hC => by rw [hC.2.2.2 83 13 rfl]; exact h13
  have zb : ∀ i, i < n → -128 ≤ z i ∧ z i ≤ 127 := fun i hi => (hz i (by omega)).2
  -- the end: field 17
  have EN : ∀ (f i : Nat) (g : mH), f ≤ i → i ≤ n → rn cB z n a = f → enT z n f = i → Cj smS h g → gI g 83 14 = iI i → gI g 83 15 = iI (soT z n f : Nat) → gI g 83 16 = iI f → (kdT z n f = 2 → gI g 83 18 = iI (vlT z f (min 3 (i - f)))) → (kdT z n f = 3 → gI g 83 19 = iI (z f % 256)) → (kdT z n f = 1 → gJ g 83 20 = Int64.ofNat (pkF (leT z f) (min 8 (i - f)))) → Vw G jX11_steps 301 [some (.ref 83), none] [] g Q := by
    intro f i g hfi hin hf he hC g14 g15 g16 g18 g19 g20
    refine bX11_steps_301 (hC.iv hi) ?_
    rw [g14, g16, su_n hfi]
    refine k _ (hC.pI rfl _) ?_
    rw [hf]
    refine ⟨?_, ?_, ?_, ?_, ?_, fun w => ?_, fun w => ?_, fun w => ?_⟩
    · rw [gI_pI, if_neg (by omega)]; exact z13 hC
    · rw [gI_pI, if_neg (by omega), he]; exact g14
    · rw [gI_pI, if_neg (by omega)]; exact g15
    · rw [gI_pI, if_neg (by omega)]; exact g16
    · rw [gI_pI, if_pos ⟨rfl, rfl⟩, he]
    · rw [gI_pI, if_neg (by omega), he]; exact g18 w
    · rw [gI_pI, if_neg (by omega)]; exact g19 w
    · rw [gJ_pI, he]; exact g20 w
  -- letters
  have LL : ∀ (d i : Nat) (g : mH) (f : Nat), i + d = n → f ≤ i → f < n → cL (z f) = true → (∀ j, f ≤ j → j < i → cL (z j) = true) → rn cL z n (f + 1) = rn cL z n (if i = f then f + 1 else i) → rn cB z n a = f → Cj smS h g → gI g 83 14 = iI i → gI g 83 16 = iI f → gJ g 83 20 = Int64.ofNat (pkF (leT z f) (min 8 (i - f))) → Vw G jX11_steps 108 [some (.ref 83), none] [] g Q := by
    intro d
    induction d with
    | zero =>
      intro i g f hin hfi hfn hL hal hr hf hC g14 g16 g20
      have : i = n := by omega
      subst this
      have gi := hC.iv hi
      refine bX11_steps_108 gi ?_
      rw [g14]
      refine mX11_byteAt gi (zc hC) hn4 (z13 hC) (by omega) ?_
      obtain ⟨q1, q2, q3, q4⟩ := bzT_c (z := z) (n := i) (i := i) (fun w => absurd w (by omega))
      refine bX11_steps_116 gi ?_
      rw [isLm_b ⟨by omega, by omega⟩, q1, decide_eq_false (by omega)]
      refine ⟨fun _ => ?_, fun w => absurd rfl w⟩
      have en : enT z i f = i := by unfold enT; rw [if_neg (by omega), if_pos hL, hr, if_neg (by omega), rn_0 (by omega)]
      have kn : kdT z i f = 1 := kdT_c.2.1.mpr ⟨hfn, hL⟩
      refine EN f i _ hfi (by omega) hf en (hC.pI rfl _) ?_ ?_ ?_ (fun w => by rw [kn] at w; omega) (fun w => by rw [kn] at w; omega) (fun _ => by rw [gJ_pI]; exact g20)
      · rw [gI_pI, if_neg (by omega)]; exact g14
      · rw [gI_pI, if_pos ⟨rfl, rfl⟩]; unfold soT; rw [kn]; exact n_1
      · rw [gI_pI, if_neg (by omega)]; exact g16
    | succ d ih =>
      intro i g f hin hfi hfn hL hal hr hf hC g14 g16 g20
      have gi := hC.iv hi
      have hil : i < n := by omega
      have e1 : iI (i : Int) + 1 = iI ((i + 1 : Nat) : Int) := by rw [n_1, ad_n]
      refine bX11_steps_108 gi ?_
      rw [g14]
      refine mX11_byteAt gi (zc hC) hn4 (z13 hC) (by omega) ?_
      obtain ⟨q1, q2, q3, q4⟩ := bzT_c (z := z) (n := n) (i := i) (fun w => zb i w)
      refine bX11_steps_116 gi ?_
      rw [isLm_b ⟨by omega, by omega⟩, q1, decide_eq_true hil, Bool.true_and, g14, g16, su_n hfi, n_8, le_n (by omega) (by omega)]
      refine ⟨fun w => ?_, fun w => ?_⟩
      · rw [bL_0] at w
        have hif : i ≠ f := fun e => by subst e; rw [hL] at w; cases w
        have en : enT z n f = i := by unfold enT; rw [if_neg (by omega), if_pos hL, hr, if_neg hif, rn_0 (fun y => by rw [w] at y; exact absurd y.2 (by decide))]
        have kn : kdT z n f = 1 := kdT_c.2.1.mpr ⟨hfn, hL⟩
        refine EN f i _ hfi (by omega) hf en (hC.pI rfl _) ?_ ?_ ?_ (fun w => by rw [kn] at w; omega) (fun w => by rw [kn] at w; omega) (fun _ => by rw [gJ_pI]; exact g20)
        · rw [gI_pI, if_neg (by omega)]; exact g14
        · rw [gI_pI, if_pos ⟨rfl, rfl⟩]; unfold soT; rw [kn]; exact n_1
        · rw [gI_pI, if_neg (by omega)]; exact g16
      · rw [bL_1] at w
        have hal' : ∀ j, f ≤ j → j < i + 1 → cL (z j) = true := fun j h1 h2 => by
          by_cases c : j = i
          · subst c; exact w
          · exact hal j h1 (by omega)
        have hr' : rn cL z n (f + 1) = rn cL z n (if i + 1 = f then f + 1 else i + 1) := by
          rw [if_neg (by omega), hr]
          by_cases c : i = f
          · rw [if_pos c, c]
          · rw [if_neg c]; exact rn_s ⟨hil, w⟩
        have nx : ∀ g', Cj smS h g' → gI g' 83 14 = iI i → gI g' 83 16 = iI f → gJ g' 83 20 = Int64.ofNat (pkF (leT z f) (min 8 (i + 1 - f))) → Vw G jX11_steps 159 [some (.ref 83), none] [] g' Q := fun g' C' a14 a16 a20 => by
          refine bX11_steps_159 (C'.iv hi) ?_
          rw [a14, e1]
          exact ih (i + 1) _ f (by omega) (by omega) hfn hL hal' hr' hf (C'.pI rfl _) (by rw [gI_pI, if_pos ⟨rfl, rfl⟩]) (by rw [gI_pI, if_neg (by omega)]; exact a16) (by rw [gJ_pI]; exact a20)
        refine ⟨fun y => nx g hC g14 g16 ?_, fun y => ?_⟩
        · rw [g20, show min 8 (i - f) = 8 from by omega, show min 8 (i + 1 - f) = 8 from by omega]
        · refine mX11_byteAt gi (zc hC) hn4 (z13 hC) (by omega) (bX11_steps_151 gi (nx _ (hC.pJ _ _) ?_ ?_ ?_))
          · rw [gI_pJ]; exact g14
          · rw [gI_pJ]; exact g16
          · rw [gJ_pJ, if_pos ⟨rfl, rfl⟩, g20]
            have hzi := zb i hil
            have hli : 97 ≤ z i ∧ z i ≤ 122 := of_decide_eq_true w
            have hbz : bzT z n i = z i := by unfold bzT; rw [if_pos hil]; omega
            have hle : leT z f (i - f) = (z i - 96).toNat := by unfold leT; rw [show f + (i - f) = i from by omega]
            rw [hbz, show (96 : Int32) = iI 96 from by decide, iI_sub, show z i - 96 = (((z i - 96).toNat : Nat) : Int) from by omega, pk_lg _ (by omega)]
            have hpb := pkF_b (d := leT z f) (i - f) (fun j hj => by
              unfold leT
              have := hal (f + j) (by omega) (by omega)
              have hh : 97 ≤ z (f + j) ∧ z (f + j) ≤ 122 := of_decide_eq_true this
              omega)
            have h8 : (32 : Nat) ^ (i - f) ≤ 32 ^ 8 := Nat.pow_le_pow_right (by omega) (by omega)
            have h40 : (32 : Nat) ^ 8 = 2 ^ 40 := by decide
            rw [show min 8 (i - f) = i - f from by omega, pk_or _ _ (by omega) (by omega), show min 8 (i + 1 - f) = (i - f) + 1 from by omega]
            congr 1
            show 32 * pkF (leT z f) (i - f) + (z i - 96).toNat = 32 * pkF (leT z f) (i - f) + leT z f (i - f)
            rw [hle]
  -- digits
  have DL : ∀ (d i : Nat) (g : mH) (f : Nat), i + d = n → f ≤ i → f < n → cL (z f) = false → cD (z f) = true → (∀ j, f ≤ j → j < i → cD (z j) = true) → rn cD z n (f + 1) = rn cD z n (if i = f then f + 1 else i) → rn cB z n a = f → Cj smS h g → gI g 83 14 = iI i → gI g 83 16 = iI f → gI g 83 18 = iI (vlT z f (min 3 (i - f))) → Vw G jX11_steps 187 [some (.ref 83), none] [] g Q := by
    intro d
    induction d with
    | zero =>
      intro i g f hin hfi hfn hL hD hal hr hf hC g14 g16 g18
      have : i = n := by omega
      subst this
      have gi := hC.iv hi
      refine bX11_steps_187 gi ?_
      rw [g14]
      refine mX11_byteAt gi (zc hC) hn4 (z13 hC) (by omega) ?_
      obtain ⟨q1, q2, q3, q4⟩ := bzT_c (z := z) (n := i) (i := i) (fun w => absurd w (by omega))
      refine bX11_steps_195 gi ?_
      rw [isDm_b ⟨by omega, by omega⟩, q2, decide_eq_false (by omega)]
      refine ⟨fun _ => ?_, fun w => absurd rfl w⟩
      have en : enT z i f = i := by unfold enT; rw [if_neg (by omega), hL]; simp only [hD, if_true, Bool.false_eq_true, if_false]; rw [hr, if_neg (by omega), rn_0 (by omega)]
      have kn : kdT z i f = 2 := kdT_c.2.2.1.mpr ⟨hfn, hL, hD⟩
      refine EN f i _ hfi (by omega) hf en (hC.pI rfl _) ?_ ?_ ?_ (fun _ => by rw [gI_pI, if_neg (by omega)]; exact g18) (fun w => by rw [kn] at w; omega) (fun w => by rw [kn] at w; omega)
      · rw [gI_pI, if_neg (by omega)]; exact g14
      · rw [gI_pI, if_pos ⟨rfl, rfl⟩]; unfold soT; rw [kn]; exact n_2
      · rw [gI_pI, if_neg (by omega)]; exact g16
    | succ d ih =>
      intro i g f hin hfi hfn hL hD hal hr hf hC g14 g16 g18
      have gi := hC.iv hi
      have hil : i < n := by omega
      have e1 : iI (i : Int) + 1 = iI ((i + 1 : Nat) : Int) := by rw [n_1, ad_n]
      refine bX11_steps_187 gi ?_
      rw [g14]
      refine mX11_byteAt gi (zc hC) hn4 (z13 hC) (by omega) ?_
      obtain ⟨q1, q2, q3, q4⟩ := bzT_c (z := z) (n := n) (i := i) (fun w => zb i w)
      refine bX11_steps_195 gi ?_
      rw [isDm_b ⟨by omega, by omega⟩, q2, decide_eq_true hil, Bool.true_and, g14, g16, su_n hfi, n_3, le_n (by omega) (by omega)]
      refine ⟨fun w => ?_, fun w => ?_⟩
      · rw [bL_0] at w
        have hif : i ≠ f := fun e => by subst e; rw [hD] at w; cases w
        have en : enT z n f = i := by unfold enT; rw [if_neg (by omega), hL]; simp only [hD, if_true, Bool.false_eq_true, if_false]; rw [hr, if_neg hif, rn_0 (fun y => by rw [w] at y; exact absurd y.2 (by decide))]
        have kn : kdT z n f = 2 := kdT_c.2.2.1.mpr ⟨hfn, hL, hD⟩
        refine EN f i _ hfi (by omega) hf en (hC.pI rfl _) ?_ ?_ ?_ (fun _ => by rw [gI_pI, if_neg (by omega)]; exact g18) (fun w => by rw [kn] at w; omega) (fun w => by rw [kn] at w; omega)
        · rw [gI_pI, if_neg (by omega)]; exact g14
        · rw [gI_pI, if_pos ⟨rfl, rfl⟩]; unfold soT; rw [kn]; exact n_2
        · rw [gI_pI, if_neg (by omega)]; exact g16
      · rw [bL_1] at w
        have hal' : ∀ j, f ≤ j → j < i + 1 → cD (z j) = true := fun j h1 h2 => by
          by_cases c : j = i
          · subst c; exact w
          · exact hal j h1 (by omega)
        have hr' : rn cD z n (f + 1) = rn cD z n (if i + 1 = f then f + 1 else i + 1) := by
          rw [if_neg (by omega), hr]
          by_cases c : i = f
          · rw [if_pos c, c]
          · rw [if_neg c]; exact rn_s ⟨hil, w⟩
        have nx : ∀ g', Cj smS h g' → gI g' 83 14 = iI i → gI g' 83 16 = iI f → gI g' 83 18 = iI (vlT z f (min 3 (i + 1 - f))) → Vw G jX11_steps 237 [some (.ref 83), none] [] g' Q := fun g' C' a14 a16 a18 => by
          refine bX11_steps_237 (C'.iv hi) ?_
          rw [a14, e1]
          exact ih (i + 1) _ f (by omega) (by omega) hfn hL hD hal' hr' hf (C'.pI rfl _) (by rw [gI_pI, if_pos ⟨rfl, rfl⟩]) (by rw [gI_pI, if_neg (by omega)]; exact a16) (by rw [gI_pI, if_neg (by omega)]; exact a18)
        refine ⟨fun y => nx g hC g14 g16 ?_, fun y => ?_⟩
        · rw [g18, show min 3 (i - f) = 3 from by omega, show min 3 (i + 1 - f) = 3 from by omega]
        · refine mX11_byteAt gi (zc hC) hn4 (z13 hC) (by omega) (bX11_steps_230 gi (nx _ (hC.pI rfl _) ?_ ?_ ?_))
          · rw [gI_pI, if_neg (by omega)]; exact g14
          · rw [gI_pI, if_neg (by omega)]; exact g16
          · rw [gI_pI, if_pos ⟨rfl, rfl⟩, g18]
            have hzi := zb i hil
            have hli : 48 ≤ z i ∧ z i ≤ 57 := of_decide_eq_true w
            have hbz : bzT z n i = z i := by unfold bzT; rw [if_pos hil]; omega
            rw [hbz, show (10 : Int32) = iI 10 from by decide, show (48 : Int32) = iI 48 from by decide, iI_mul, iI_add, iI_sub, show min 3 (i - f) = i - f from by omega, show min 3 (i + 1 - f) = (i - f) + 1 from by omega]
            congr 1
            show 10 * vlT z f (i - f) + z i - 48 = 10 * vlT z f (i - f) + (z (f + (i - f)) - 48)
            rw [show f + (i - f) = i from by omega]
            omega
  -- behind the blanks
  have BE : ∀ (f : Nat) (g : mH), f ≤ n → rn cB z n a = f → Cj smS h g → gI g 83 14 = iI f → Vw G jX11_steps 50 [some (.ref 83), none] [] g Q := by
    intro f g hfn hf hC g14
    have gi := hC.iv hi
    have e1 : iI (f : Int) + 1 = iI ((f + 1 : Nat) : Int) := by rw [n_1, ad_n]
    refine bX11_steps_50 gi ?_
    rw [show gI (pI (pJ (pI g 83 16 (gI g 83 14)) 83 20 0) 83 18 0) 83 14 = iI f from by rw [gI_pI, if_neg (by omega), gI_pJ, gI_pI, if_neg (by omega)]; exact g14, g14]
    generalize hg1 : pI (pJ (pI g 83 16 (iI f)) 83 20 0) 83 18 0 = g1
    have C1 : Cj smS h g1 := by rw [← hg1]; exact ((hC.pI rfl _).pJ _ _).pI rfl _
    have q14 : gI g1 83 14 = iI f := by rw [← hg1, gI_pI, if_neg (by omega), gI_pJ, gI_pI, if_neg (by omega)]; exact g14
    have q16 : gI g1 83 16 = iI f := by rw [← hg1, gI_pI, if_neg (by omega), gI_pJ, gI_pI, if_pos ⟨rfl, rfl⟩]
    have q18 : gI g1 83 18 = iI 0 := by rw [← hg1, gI_pI, if_pos ⟨rfl, rfl⟩]; decide
    have q20 : gJ g1 83 20 = Int64.ofNat 0 := by rw [← hg1, gJ_pI, gJ_pJ, if_pos ⟨rfl, rfl⟩]; rfl
    clear hg1
    have i1 := C1.iv hi
    refine mX11_byteAt i1 (zc C1) hn4 (z13 C1) (by omega) (bX11_steps_76 i1 ?_)
    obtain ⟨b1, b2, b3, b4⟩ := bzT_c (z := z) (n := n) (i := f) (fun w => zb f w)
    have C2 : Cj smS h (pI g1 83 19 (iI (bzT z n f))) := C1.pI rfl _
    have r14 : gI (pI g1 83 19 (iI (bzT z n f))) 83 14 = iI f := by rw [gI_pI, if_neg (by omega)]; exact q14
    have r13 : gI (pI g1 83 19 (iI (bzT z n f))) 83 13 = iI n := z13 C2
    have r16 : gI (pI g1 83 19 (iI (bzT z n f))) 83 16 = iI f := by rw [gI_pI, if_neg (by omega)]; exact q16
    have r18 : gI (pI g1 83 19 (iI (bzT z n f))) 83 18 = iI 0 := by rw [gI_pI, if_neg (by omega)]; exact q18
    have r19 : gI (pI g1 83 19 (iI (bzT z n f))) 83 19 = iI (bzT z n f) := by rw [gI_pI, if_pos ⟨rfl, rfl⟩]
    have r20 : gJ (pI g1 83 19 (iI (bzT z n f))) 83 20 = Int64.ofNat 0 := by rw [gJ_pI]; exact q20
    rw [r14, r13, lt_n (by omega) (by omega), isLm_b ⟨by omega, by omega⟩, isDm_b ⟨by omega, by omega⟩, b1, b2, e1]
    generalize hg2 : pI g1 83 19 (iI (bzT z n f)) = g2 at *
    refine ⟨fun w => ⟨fun y => ⟨fun x => ?_, fun x => ?_⟩, fun y => ?_⟩, fun w => ?_⟩
    · rw [bL_0, decide_eq_true w, Bool.true_and] at y x
      have hzf := zb f w
      have hbz : bzT z n f = z f % 256 := by unfold bzT; rw [if_pos w]
      have en : enT z n f = f + 1 := by unfold enT; rw [if_neg (by omega), y, x]; simp
      have kn : kdT z n f = 3 := kdT_c.2.2.2.1.mpr ⟨w, y, x⟩
      have fin : ∀ s : Int32, s = iI (soT z n f : Nat) → Vw G jX11_steps 301 [some (.ref 83), none] [] (pI (pI g2 83 14 (iI ((f + 1 : Nat) : Int))) 83 15 s) Q := fun s hs => by
        refine EN f (f + 1) _ (by omega) (by omega) hf en ((C2.pI rfl _).pI rfl _) ?_ ?_ ?_ (fun u => by rw [kn] at u; omega) (fun _ => ?_) (fun u => by rw [kn] at u; omega)
        · rw [gI_pI, if_neg (by omega), gI_pI, if_pos ⟨rfl, rfl⟩]
        · rw [gI_pI, if_pos ⟨rfl, rfl⟩]; exact hs
        · rw [gI_pI, if_neg (by omega), gI_pI, if_neg (by omega)]; exact r16
        · rw [gI_pI, if_neg (by omega), gI_pI, if_neg (by omega), r19, hbz]
      have so : soT z n f = if z f = 59 ∨ z f = 45 ∨ z f = 40 ∨ z f = 41 then 3 else 4 := by unfold soT; rw [if_pos kn]
      have ec : ∀ c : Int, 0 ≤ c → c ≤ 127 → (iI (bzT z n f) = iI c ↔ z f = c) := fun c c0 c1 => by
        rw [hbz, iI_eq ⟨by omega, by omega⟩ ⟨by omega, by omega⟩]
        omega
      rw [show (59 : Int32) = iI 59 from by decide, show (45 : Int32) = iI 45 from by decide, show (40 : Int32) = iI 40 from by decide, show (41 : Int32) = iI 41 from by decide, ec 59 (by omega) (by omega), ec 45 (by omega) (by omega), ec 40 (by omega) (by omega), ec 41 (by omega) (by omega)]
      refine ⟨fun u => fin 3 ?_, fun u1 => ⟨fun u => fin 3 ?_, fun u2 => ⟨fun u => fin 3 ?_, fun u3 => ⟨fun u => fin 4 ?_, fun u => fin 3 ?_⟩⟩⟩⟩
      · rw [so, if_pos (.inl u)]; exact n_3
      · rw [so, if_pos (.inr (.inl u))]; exact n_3
      · rw [so, if_pos (.inr (.inr (.inl u)))]; exact n_3
      · rw [so, if_neg (by omega)]; exact n_4
      · rw [so, if_pos (.inr (.inr (.inr u)))]; exact n_3
    · rw [bL_0, decide_eq_true w, Bool.true_and] at y
      rw [bL_1, decide_eq_true w, Bool.true_and] at x
      refine DL (n - f) f _ f (by omega) (Nat.le_refl _) w y x (fun j h1 h2 => by omega) (by rw [if_pos rfl]) hf C2 r14 r16 ?_
      rw [r18, show f - f = 0 from by omega]; rfl
    · rw [bL_1, decide_eq_true w, Bool.true_and] at y
      refine LL (n - f) f _ f (by omega) (Nat.le_refl _) w y (fun j h1 h2 => by omega) (by rw [if_pos rfl]) hf C2 r14 r16 ?_
      rw [r20, show f - f = 0 from by omega]; rfl
    · have en : enT z n f = f := by unfold enT; rw [if_pos (by omega)]
      have kn : kdT z n f = 0 := kdT_c.1.mpr (by omega)
      refine EN f f _ (Nat.le_refl _) hfn hf en (C2.pI rfl _) ?_ ?_ ?_ (fun u => by rw [kn] at u; omega) (fun u => by rw [kn] at u; omega) (fun u => by rw [kn] at u; omega)
      · rw [gI_pI, if_neg (by omega)]; exact r14
      · rw [gI_pI, if_pos ⟨rfl, rfl⟩]; unfold soT; rw [kn]; exact n_0
      · rw [gI_pI, if_neg (by omega)]; exact r16
  -- blanks
  have BL : ∀ (d i : Nat) (g : mH), i + d = n → rn cB z n a = rn cB z n i → Cj smS h g → gI g 83 14 = iI i → Vw G jX11_steps 0 [some (.ref 83), none] [] g Q := by
    intro d
    induction d with
    | zero =>
      intro i g hin hr hC g14
      refine bX11_steps_0 (hC.iv hi) ⟨fun _ => BE i g (by omega) (by rw [hr, rn_0 (by omega)]) hC g14, fun w => absurd ?_ w⟩
      rw [z13 hC, g14, le_n (by omega) (by omega)]; omega
    | succ d ih =>
      intro i g hin hr hC g14
      have gi := hC.iv hi
      have hil : i < n := by omega
      have e1 : iI (i : Int) + 1 = iI ((i + 1 : Nat) : Int) := by rw [n_1, ad_n]
      have hzi := zb i hil
      have hbz : bzT z n i = z i % 256 := by unfold bzT; rw [if_pos hil]
      refine bX11_steps_0 gi ⟨fun w => ?_, fun _ => ?_⟩
      · rw [z13 hC, g14, le_n (by omega) (by omega)] at w
        omega
      · rw [g14]
        have skip : cB (z i) = true → Vw G jX11_steps 37 [some (.ref 83), none] [] g Q := fun w => by
          refine bX11_steps_37 gi ?_
          rw [g14, e1]
          exact ih (i + 1) _ (by omega) (by rw [hr]; exact rn_s ⟨hil, w⟩) (hC.pI rfl _) (by rw [gI_pI, if_pos ⟨rfl, rfl⟩])
        have ec : ∀ c : Int, 0 ≤ c → c ≤ 127 → (iI (bzT z n i) = iI c ↔ z i = c) := fun c c0 c1 => by
          rw [hbz, iI_eq ⟨by omega, by omega⟩ ⟨by omega, by omega⟩]
          omega
        refine mX11_byteAt gi (zc hC) hn4 (z13 hC) (by omega) (bX11_steps_19 gi ?_)
        rw [show (32 : Int32) = iI 32 from by decide, ec 32 (by omega) (by omega)]
        refine ⟨fun w => skip ?_, fun w => ?_⟩
        · unfold cB; exact decide_eq_true (.inl w)
        · rw [g14]
          refine mX11_byteAt gi (zc hC) hn4 (z13 hC) (by omega) (bX11_steps_32 gi ?_)
          rw [show (10 : Int32) = iI 10 from by decide, ec 10 (by omega) (by omega)]
          refine ⟨fun y => BE i g (by omega) ?_ hC g14, fun y => skip ?_⟩
          · rw [hr]
            refine rn_0 (fun u => ?_)
            have := of_decide_eq_true u.2
            omega
          · unfold cB; exact decide_eq_true (.inr y)
  have start := BL (n - a) a h (by omega) rfl Cj.rf h14
  refine eX11_steps hi ⟨fun w => ?_, fun w => ?_⟩
  · rw [h13, h14, le_n (by omega) (by omega)] at w
    exact BE a h ha (rn_0 (by omega)) Cj.rf h14
  · rw [h13, h14, le_n (by omega) (by omega)] at w
    have hzi := zb a (by omega)
    have hbz : bzT z n a = z a % 256 := by unfold bzT; rw [if_pos (by omega)]
    have e1 : iI (a : Int) + 1 = iI ((a + 1 : Nat) : Int) := by rw [n_1, ad_n]
    rw [h14]
    have skip : cB (z a) = true → Vw G jX11_steps 37 [some (.ref 83), none] [] h Q := fun w2 => by
      refine bX11_steps_37 hi ?_
      rw [h14, e1]
      exact BL (n - (a + 1)) (a + 1) _ (by omega) (rn_s ⟨by omega, w2⟩) (Cj.rf.pI rfl _) (by rw [gI_pI, if_pos ⟨rfl, rfl⟩])
    have ec : ∀ c : Int, 0 ≤ c → c ≤ 127 → (iI (bzT z n a) = iI c ↔ z a = c) := fun c c0 c1 => by
      rw [hbz, iI_eq ⟨by omega, by omega⟩ ⟨by omega, by omega⟩]
      omega
    refine mX11_byteAt hi hz hn4 h13 (by omega) (bX11_steps_19 hi ?_)
    rw [show (32 : Int32) = iI 32 from by decide, ec 32 (by omega) (by omega)]
    refine ⟨fun w => skip ?_, fun w => ?_⟩
    · unfold cB; exact decide_eq_true (.inl w)
    · rw [h14]
      refine mX11_byteAt hi hz hn4 h13 (by omega) (bX11_steps_32 hi ?_)
      rw [show (10 : Int32) = iI 10 from by decide, ec 10 (by omega) (by omega)]
      refine ⟨fun y => BE a h ha ?_ Cj.rf h14, fun y => skip ?_⟩
      · refine rn_0 (fun u => ?_)
        have := of_decide_eq_true u.2
        omega
      · unfold cB; exact decide_eq_true (.inr y)
end TOKM
