section TOK
variable {G : GX} {h : mH} {Q : mO → mH → Prop}
def cB (c : Int) : Bool := decide (c = 32 ∨ c = 10)
def cL (c : Int) : Bool := decide (97 ≤ c ∧ c ≤ 122)
def cD (c : Int) : Bool := decide (48 ≤ c ∧ c ≤ 57)
def rnT (p : Int → Bool) (z : Nat → Int) (n : Nat) : Nat → Nat → Nat
  | 0, i => i
  | d + 1, i => if i < n ∧ p (z i) = true then rnT p z n d (i + 1) else i
/-- the first place from i on where p doesn't hold -/
def rn (p : Int → Bool) (z : Nat → Int) (n i : Nat) : Nat := rnT p z n (n - i) i
theorem rn_s {p : Int → Bool} {z : Nat → Int} {n i : Nat} (h : i < n ∧ p (z i) = true) : rn p z n i = rn p z n (i + 1) := by
  unfold rn
  rw [show n - i = (n - (i + 1)) + 1 from by omega]
  conv => lhs; unfold rnT
  rw [if_pos h]
theorem rn_0 {p : Int → Bool} {z : Nat → Int} {n i : Nat} (h : ¬ (i < n ∧ p (z i) = true)) : rn p z n i = i := by
  unfold rn
  cases e : n - i with
  | zero => rfl
  | succ d =>
    unfold rnT
    rw [if_neg h]
theorem rn_b {p : Int → Bool} {z : Nat → Int} {n : Nat} : ∀ (d i : Nat), i + d = n → i ≤ rn p z n i ∧ rn p z n i ≤ n ∧ (∀ j, i ≤ j → j < rn p z n i → p (z j) = true) ∧ (rn p z n i < n → p (z (rn p z n i)) = false)
  | 0, i, e => by
    rw [rn_0 (by omega)]
    exact ⟨Nat.le_refl _, by omega, fun j h1 h2 => by omega, fun h1 => by omega⟩
  | d + 1, i, e => by
    by_cases c : p (z i) = true
    · rw [rn_s ⟨by omega, c⟩]
      obtain ⟨a1, a2, a3, a4⟩ := rn_b (p := p) (z := z) (n := n) d (i + 1) (by omega)
      refine ⟨by omega, a2, fun j h1 h2 => ?_, a4⟩
      by_cases c2 : j = i
      · subst c2; exact c
      · exact a3 j (by omega) h2
    · rw [rn_0 (fun w => c w.2)]
      exact ⟨Nat.le_refl _, by omega, fun j h1 h2 => by omega, fun _ => by simpa using c⟩
/-- the token that begins at f: its kind, where it ends; and where the next one begins -/
def kdT (z : Nat → Int) (n f : Nat) : Nat := if n ≤ f then 0 else if cL (z f) then 1 else if cD (z f) then 2 else 3
def enT (z : Nat → Int) (n f : Nat) : Nat := if n ≤ f then f else if cL (z f) then rn cL z n (f + 1) else if cD (z f) then rn cD z n (f + 1) else f + 1
def adT (z : Nat → Int) (n f : Nat) : Nat := rn cB z n (enT z n f)
theorem enT_b {z : Nat → Int} {n f : Nat} (hf : f ≤ n) : f ≤ enT z n f ∧ enT z n f ≤ n ∧ (f < n → f < enT z n f) := by
  unfold enT
  by_cases c : n ≤ f
  · rw [if_pos c]; omega
  · rw [if_neg c]
    have a := rn_b (p := cL) (z := z) (n := n) (n - (f + 1)) (f + 1) (by omega)
    have b := rn_b (p := cD) (z := z) (n := n) (n - (f + 1)) (f + 1) (by omega)
    split
    · omega
    · split <;> omega
theorem adT_b {z : Nat → Int} {n f : Nat} (hf : f ≤ n) : enT z n f ≤ adT z n f ∧ adT z n f ≤ n := by
  have a := enT_b (z := z) hf
  have b := rn_b (p := cB) (z := z) (n := n) (n - enT z n f) (enT z n f) (by omega)
  exact ⟨b.1, b.2.1⟩
theorem kdT_c {z : Nat → Int} {n f : Nat} : (kdT z n f = 0 ↔ n ≤ f) ∧ (kdT z n f = 1 ↔ f < n ∧ cL (z f) = true) ∧ (kdT z n f = 2 ↔ f < n ∧ cL (z f) = false ∧ cD (z f) = true) ∧ (kdT z n f = 3 ↔ f < n ∧ cL (z f) = false ∧ cD (z f) = false) ∧ kdT z n f ≤ 3 := by
  unfold kdT
  by_cases c : n ≤ f
  · rw [if_pos c]
    refine ⟨by omega, by omega, by omega, by omega, by omega⟩
  · rw [if_neg c]
    cases hL : cL (z f) <;> cases hD : cD (z f) <;> simp [c] <;> omega
def vlT (z : Nat → Int) (f : Nat) : Nat → Int
  | 0 => 0
  | k + 1 => 10 * vlT z f k + (z (f + k) - 48)
theorem vlT_b {z : Nat → Int} {f : Nat} : ∀ k, (∀ j, j < k → cD (z (f + j)) = true) → 0 ≤ vlT z f k ∧ (k = 1 → vlT z f k ≤ 9) ∧ (k = 2 → vlT z f k ≤ 99) ∧ (k = 3 → vlT z f k ≤ 999)
  | 0, _ => ⟨Int.le_refl _, by omega, by omega, by omega⟩
  | k + 1, hd => by
    obtain ⟨a, b, c, d⟩ := vlT_b k (fun j hj => hd j (by omega))
    have hk := hd k (by omega)
    unfold cD at hk
    have hk' := of_decide_eq_true hk
    unfold vlT
    refine ⟨by omega, fun e => ?_, fun e => ?_, fun e => ?_⟩
    · have : k = 0 := by omega
      subst this
      unfold vlT
      omega
    · have := b (by omega); omega
    · have := c (by omega); omega
/-- bytes of the class -/
def ZC (z : Nat → Int) (g : mH) : Prop := ∀ i, i < 400 → gI g 2 i = iI (z i) ∧ -128 ≤ z i ∧ z i ≤ 127
def TC (z : Nat → Int) (n f : Nat) (g : mH) : Prop := gI g 1 5 = iI (n : Nat) ∧ gI g 1 6 = iI (enT z n f : Nat) ∧ gI g 1 7 = iI (kdT z n f : Nat) ∧ gI g 1 8 = iI (f : Nat) ∧ (kdT z n f = 2 → gI g 1 9 = iI (if enT z n f - f ≤ 3 then vlT z f (enT z n f - f) else 1000)) ∧ (kdT z n f = 3 → gI g 1 9 = iI (z f))
theorem isL_b {x : Int} (hx : r31 x) : fX9_isLetter (iI x) = bL (cL x) := by
  unfold fX9_isLetter cL bL
  rw [show (97 : Int32) = iI 97 from by decide, show (122 : Int32) = iI 122 from by decide]
  simp only [iI_lt hx (show r31 97 from ⟨by decide, by decide⟩), iI_lt (show r31 122 from ⟨by decide, by decide⟩) hx]
  by_cases c1 : x < 97
  · rw [if_pos c1, decide_eq_false (by omega)]; rfl
  · rw [if_neg c1]
    by_cases c2 : 122 < x
    · rw [if_pos c2, decide_eq_false (by omega)]; rfl
    · rw [if_neg c2, decide_eq_true (by omega)]; rfl
theorem isD_b {x : Int} (hx : r31 x) : fX9_isDigit (iI x) = bL (cD x) := by
  unfold fX9_isDigit cD bL
  rw [show (48 : Int32) = iI 48 from by decide, show (57 : Int32) = iI 57 from by decide]
  simp only [iI_lt hx (show r31 48 from ⟨by decide, by decide⟩), iI_lt (show r31 57 from ⟨by decide, by decide⟩) hx]
  by_cases c1 : x < 48
  · rw [if_pos c1, decide_eq_false (by omega)]; rfl
  · rw [if_neg c1]
    by_cases c2 : 57 < x
    · rw [if_pos c2, decide_eq_false (by omega)]; rfl
    · rw [if_neg c2, decide_eq_true (by omega)]; rfl
theorem isB_b {x : Int} (hx : r31 x) : fX9_isBlank (iI x) = bL (cB x) := by
  unfold fX9_isBlank cB bL
  rw [show (32 : Int32) = iI 32 from by decide, show (10 : Int32) = iI 10 from by decide]
  simp only [iI_eq hx (show r31 32 from ⟨by decide, by decide⟩), iI_eq hx (show r31 10 from ⟨by decide, by decide⟩)]
  by_cases c1 : x = 32
  · rw [if_pos c1, decide_eq_true (by omega)]; rfl
  · rw [if_neg c1]
    by_cases c2 : x = 10
    · rw [if_pos c2, decide_eq_true (by omega)]; rfl
    · rw [if_neg c2, decide_eq_false (by omega)]; rfl
def taS (o k : Nat) : Bool := o == 1 && (k == 6 || (k == 7 || (k == 8 || (k == 9))))
theorem bL_1 {b : Bool} : ¬ bL b = 0 ↔ b = true := by cases b <;> decide
theorem mX9_advance {z : Nat → Int} {n a : Nat} (hi : Iv h) (hz : ZC z h) (hn4 : n ≤ 400) (ha : a ≤ n) (h5 : gI h 1 5 = iI n) (h6 : gI h 1 6 = iI a) (k : ∀ g, Ce taS h g → TC z n (rn cB z n a) g → Q (.inl none) g) : WM G jX9_advance [.ref 1] h Q := by
  have rz : ∀ i, i < 400 → r31 (z i) := fun i hi => ⟨by have := (hz i hi).2.1; omega, by have := (hz i hi).2.2; omega⟩
  have z2 : ∀ {g : mH}, Ce taS h g → ∀ i, i < 400 → gI g 2 i = iI (z i) := fun hC i hi => by rw [hC.2.2 2 i rfl]; exact (hz i hi).1
  have z5 : ∀ {g : mH}, Ce taS h g → gI g 1 5 = iI n := fun hC => by rw [hC.2.2 1 5 rfl]; exact h5
  -- letters
  have LL : ∀ (d i : Nat) (g : mH) (f : Nat), i + d = n → f < i → f < n → cL (z f) = true → rn cL z n (f + 1) = rn cL z n i → rn cB z n a = f → Ce taS h g → gI g 1 6 = iI i → gI g 1 7 = 1 → gI g 1 8 = iI f → Vw G jX9_advance 96 [some (.ref 1), none] [] g Q := by
    intro d
    induction d with
    | zero =>
      intro i g f hin hfi hfn hL hr hf hC g6 g7 g8
      have : i = n := by omega
      subst this
      have en : enT z i f = i := by unfold enT; rw [if_neg (by omega), if_pos hL, hr, rn_0 (by omega)]
      have kn : kdT z i f = 1 := kdT_c.2.1.mpr ⟨hfn, hL⟩
      refine bX9_advance_96 (hC.iv hi) ⟨fun _ => k g hC ?_, fun w => absurd (by rw [z5 hC, g6]; exact Int32.le_refl _) w⟩
      rw [hf]
      exact ⟨z5 hC, by rw [en]; exact g6, by rw [kn, g7]; exact n_1, g8, fun w => by rw [kn] at w; omega, fun w => by rw [kn] at w; omega⟩
    | succ d ih =>
      intro i g f hin hfi hfn hL hr hf hC g6 g7 g8
      have gi := hC.iv hi
      have e1 : iI (i : Int) + 1 = iI ((i + 1 : Nat) : Int) := by rw [n_1, ad_n]
      refine bX9_advance_96 gi ⟨fun w => ?_, fun _ => ?_⟩
      · rw [z5 hC, g6, le_n (by omega) (by omega)] at w
        omega
      · rw [g6, ix_n (by omega), z2 hC i (by omega), isL_b (rz i (by omega)), e1]
        refine ⟨in_n (by omega) (by omega), fun w => ?_, fun w => ?_⟩
        · rw [bL_0] at w
          have en : enT z n f = i := by unfold enT; rw [if_neg (by omega), if_pos hL, hr, rn_0 (fun y => by rw [w] at y; exact absurd y.2 (by decide))]
          have kn : kdT z n f = 1 := kdT_c.2.1.mpr ⟨hfn, hL⟩
          refine k g hC ?_
          rw [hf]
          exact ⟨z5 hC, by rw [en]; exact g6, by rw [kn, g7]; exact n_1, g8, fun w => by rw [kn] at w; omega, fun w => by rw [kn] at w; omega⟩
        · rw [bL_1] at w
          refine ih (i + 1) _ f (by omega) (by omega) hfn hL (by rw [hr]; exact rn_s ⟨by omega, w⟩) hf (hC.pI rfl _) ?_ ?_ ?_
          · rw [gI_pI, if_pos ⟨rfl, rfl⟩]
          · rw [gI_pI, if_neg (by omega)]; exact g7
          · rw [gI_pI, if_neg (by omega)]; exact g8
  -- behind the digits
  have DE : ∀ (i : Nat) (g : mH) (f : Nat) (v : Int), f < i → i ≤ n → f < n → cL (z f) = false → cD (z f) = true → rn cD z n (f + 1) = i → rn cB z n a = f → Ce taS h g → gI g 1 6 = iI i → gI g 1 7 = 2 → gI g 1 8 = iI f → gI g 1 9 = iI v → (i - f ≤ 3 → v = vlT z f (i - f)) → Vw G jX9_advance 234 [some (.ref 1), none] [] g Q := by
    intro i g f v hfi hin hfn hL hD hr hf hC g6 g7 g8 g9 hv
    have en : enT z n f = i := by unfold enT; rw [if_neg (by omega), hL]; simp [hD, hr]
    have kn : kdT z n f = 2 := kdT_c.2.2.1.mpr ⟨hfn, hL, hD⟩
    refine bX9_advance_234 (hC.iv hi) ?_
    rw [g6, g8, su_n (by omega), n_3, le_n (by omega) (by omega), g9]
    refine ⟨fun w => k _ (hC.pI rfl _) ?_, fun w => k _ (hC.pI rfl _) ?_⟩
    all_goals rw [hf]
    · refine ⟨by rw [gI_pI, if_neg (by omega)]; exact z5 hC, by rw [en, gI_pI, if_neg (by omega)]; exact g6, by rw [kn, gI_pI, if_neg (by omega), g7]; exact n_2, by rw [gI_pI, if_neg (by omega)]; exact g8, fun _ => ?_, fun y => by rw [kn] at y; omega⟩
      rw [gI_pI, if_pos ⟨rfl, rfl⟩, en, if_pos w, hv w]
    · refine ⟨by rw [gI_pI, if_neg (by omega)]; exact z5 hC, by rw [en, gI_pI, if_neg (by omega)]; exact g6, by rw [kn, gI_pI, if_neg (by omega), g7]; exact n_2, by rw [gI_pI, if_neg (by omega)]; exact g8, fun _ => ?_, fun y => by rw [kn] at y; omega⟩
      rw [gI_pI, if_pos ⟨rfl, rfl⟩, en, if_neg w]
      decide
  -- digits
  have DL : ∀ (d i : Nat) (g : mH) (f : Nat) (v : Int), i + d = n → f < i → f < n → cL (z f) = false → (∀ j, f ≤ j → j < i → cD (z j) = true) → rn cD z n (f + 1) = rn cD z n i → rn cB z n a = f → Ce taS h g → gI g 1 6 = iI i → gI g 1 7 = 2 → gI g 1 8 = iI f → gI g 1 9 = iI v → 0 ≤ v → v ≤ 9999 → (i - f ≤ 3 → v = vlT z f (i - f)) → Vw G jX9_advance 155 [some (.ref 1), none] [] g Q := by
    intro d
    induction d with
    | zero =>
      intro i g f v hin hfi hfn hL hD hr hf hC g6 g7 g8 g9 v0 v9 hv
      have : i = n := by omega
      subst this
      refine bX9_advance_155 (hC.iv hi) ⟨fun _ => DE i g f v hfi (by omega) hfn hL (hD f (by omega) hfi) (by rw [hr, rn_0 (by omega)]) hf hC g6 g7 g8 g9 hv, fun w => absurd (by rw [z5 hC, g6]; exact Int32.le_refl _) w⟩
    | succ d ih =>
      intro i g f v hin hfi hfn hL hD hr hf hC g6 g7 g8 g9 v0 v9 hv
      have gi := hC.iv hi
      have e1 : iI (i : Int) + 1 = iI ((i + 1 : Nat) : Int) := by rw [n_1, ad_n]
      refine bX9_advance_155 gi ⟨fun w => ?_, fun _ => ?_⟩
      · rw [z5 hC, g6, le_n (by omega) (by omega)] at w
        omega
      · have r6 : ∀ w, gI (pI g 1 9 w) 1 6 = iI i := fun w => by rw [gI_pI, if_neg (by omega)]; exact g6
        rw [r6, r6, g6, ix_n (by omega), z2 hC i (by omega), isD_b (rz i (by omega)), e1, g9]
        refine ⟨in_n (by omega) (by omega), fun w => ?_, fun w => ⟨fun y => ?_, fun y => ⟨in_n (by omega) (by omega), ?_⟩⟩⟩
        · rw [bL_0] at w
          exact DE i g f v hfi (by omega) hfn hL (hD f (by omega) hfi) (by rw [hr, rn_0 (fun y => by rw [w] at y; exact absurd y.2 (by decide))]) hf hC g6 g7 g8 g9 hv
        · rw [bL_1] at w
          rw [show (1000 : Int32) = iI 1000 from by decide, iI_le ⟨by decide, by decide⟩ ⟨by omega, by omega⟩] at y
          have hi3 : 3 < i - f := by
            refine Classical.byContradiction (fun c => ?_)
            have hvv := hv (by omega)
            have vb := vlT_b (z := z) (f := f) (i - f) (fun j hj => hD (f + j) (by omega) (by omega))
            rcases (show i - f = 1 ∨ i - f = 2 ∨ i - f = 3 from by omega) with q | q | q
            · have := vb.2.1 q; omega
            · have := vb.2.2.1 q; omega
            · have := vb.2.2.2 q; omega
          refine ih (i + 1) _ f 1000 (by omega) (by omega) hfn hL (fun j h1 h2 => ?_) (by rw [hr]; exact rn_s ⟨by omega, w⟩) hf ((hC.pI rfl _).pI rfl _) ?_ ?_ ?_ ?_ (by omega) (by omega) (by omega)
          · by_cases c : j = i
            · subst c; exact w
            · exact hD j h1 (by omega)
          · rw [gI_pI, if_pos ⟨rfl, rfl⟩]
          · rw [gI_pI, if_neg (by omega), gI_pI, if_neg (by omega)]; exact g7
          · rw [gI_pI, if_neg (by omega), gI_pI, if_neg (by omega)]; exact g8
          · rw [gI_pI, if_neg (by omega), gI_pI, if_pos ⟨rfl, rfl⟩]; decide
        · rw [bL_1] at w
          rw [show (1000 : Int32) = iI 1000 from by decide, iI_le ⟨by decide, by decide⟩ ⟨by omega, by omega⟩] at y
          have hz48 : 48 ≤ z i ∧ z i ≤ 57 := of_decide_eq_true w
          rw [show (10 : Int32) = iI 10 from by decide, show (48 : Int32) = iI 48 from by decide, iI_mul, iI_add, iI_sub]
          refine ih (i + 1) _ f (10 * v + z i - 48) (by omega) (by omega) hfn hL (fun j h1 h2 => ?_) (by rw [hr]; exact rn_s ⟨by omega, w⟩) hf ((hC.pI rfl _).pI rfl _) ?_ ?_ ?_ ?_ (by omega) (by omega) (fun c => ?_)
          · by_cases c : j = i
            · subst c; exact w
            · exact hD j h1 (by omega)
          · rw [gI_pI, if_pos ⟨rfl, rfl⟩]
          · rw [gI_pI, if_neg (by omega), gI_pI, if_neg (by omega)]; exact g7
          · rw [gI_pI, if_neg (by omega), gI_pI, if_neg (by omega)]; exact g8
          · rw [gI_pI, if_neg (by omega), gI_pI, if_pos ⟨rfl, rfl⟩]
          · rw [show i + 1 - f = (i - f) + 1 from by omega]
            unfold vlT
            rw [← hv (by omega), show f + (i - f) = i from by omega]
            omega
  -- behind the blanks
  have BE : ∀ (f : Nat) (g : mH), f ≤ n → rn cB z n a = f → Ce taS h g → gI g 1 6 = iI f → Vw G jX9_advance 39 [some (.ref 1), none] [] g Q := by
    intro f g hfn hf hC g6
    have gi := hC.iv hi
    have e1 : iI (f : Int) + 1 = iI ((f + 1 : Nat) : Int) := by rw [n_1, ad_n]
    have C1 : Ce taS h (pI g 1 8 (iI f)) := hC.pI rfl _
    have q6 : gI (pI g 1 8 (iI f)) 1 6 = iI f := by rw [gI_pI, if_neg (by omega)]; exact g6
    have q5 : gI (pI g 1 8 (iI f)) 1 5 = iI n := z5 C1
    have q8 : gI (pI g 1 8 (iI f)) 1 8 = iI f := by rw [gI_pI, if_pos ⟨rfl, rfl⟩]
    refine bX9_advance_39 gi ?_
    rw [g6, q6, q5]
    generalize hg1 : pI g 1 8 (iI f) = g1 at *
    rw [lt_n (by omega) (by omega), ix_n (by omega)]
    refine ⟨fun w => ?_, fun w => ?_⟩
    · rw [z2 C1 f (by omega), isL_b (rz f (by omega)), isD_b (rz f (by omega)), e1]
      refine ⟨in_n (by omega) (by omega), fun y => ⟨fun x => ?_, fun x => ?_⟩, fun y => ?_⟩
      · rw [bL_0] at y x
        have en : enT z n f = f + 1 := by unfold enT; rw [if_neg (by omega), y, x]; simp
        have kn : kdT z n f = 3 := kdT_c.2.2.2.1.mpr ⟨w, y, x⟩
        refine k _ (((C1.pI rfl _).pI rfl _).pI rfl _) ?_
        rw [hf]
        refine ⟨?_, ?_, ?_, ?_, fun u => by rw [kn] at u; omega, fun _ => by rw [gI_pI, if_pos ⟨rfl, rfl⟩]⟩
        · rw [gI_pI, if_neg (by omega), gI_pI, if_neg (by omega), gI_pI, if_neg (by omega)]; exact q5
        · rw [gI_pI, if_neg (by omega), gI_pI, if_neg (by omega), gI_pI, if_pos ⟨rfl, rfl⟩, en]
        · rw [gI_pI, if_neg (by omega), gI_pI, if_pos ⟨rfl, rfl⟩, kn]; exact n_3
        · rw [gI_pI, if_neg (by omega), gI_pI, if_neg (by omega), gI_pI, if_neg (by omega)]; exact q8
      · rw [bL_0] at y
        rw [bL_1] at x
        have hz48 : 48 ≤ z f ∧ z f ≤ 57 := of_decide_eq_true x
        rw [show (48 : Int32) = iI 48 from by decide, iI_sub]
        refine DL (n - (f + 1)) (f + 1) _ f (z f - 48) (by omega) (by omega) w y (fun j h1 h2 => by rw [show j = f from by omega]; exact x) rfl hf (((C1.pI rfl _).pI rfl _).pI rfl _) ?_ ?_ ?_ ?_ (by omega) (by omega) (fun _ => ?_)
        · rw [gI_pI, if_neg (by omega), gI_pI, if_neg (by omega), gI_pI, if_pos ⟨rfl, rfl⟩]
        · rw [gI_pI, if_neg (by omega), gI_pI, if_pos ⟨rfl, rfl⟩]
        · rw [gI_pI, if_neg (by omega), gI_pI, if_neg (by omega), gI_pI, if_neg (by omega)]; exact q8
        · rw [gI_pI, if_pos ⟨rfl, rfl⟩]
        · rw [show f + 1 - f = 1 from by omega]
          unfold vlT vlT
          rw [Nat.add_zero]
          omega
      · rw [bL_1] at y
        refine LL (n - (f + 1)) (f + 1) _ f (by omega) (by omega) w y rfl hf ((C1.pI rfl _).pI rfl _) ?_ ?_ ?_
        · rw [gI_pI, if_neg (by omega), gI_pI, if_pos ⟨rfl, rfl⟩]
        · rw [gI_pI, if_pos ⟨rfl, rfl⟩]
        · rw [gI_pI, if_neg (by omega), gI_pI, if_neg (by omega)]; exact q8
    · have en : enT z n f = f := by unfold enT; rw [if_pos (by omega)]
      have kn : kdT z n f = 0 := kdT_c.1.mpr (by omega)
      refine k _ (C1.pI rfl _) ?_
      rw [hf]
      refine ⟨?_, ?_, ?_, ?_, fun u => by rw [kn] at u; omega, fun u => by rw [kn] at u; omega⟩
      · rw [gI_pI, if_neg (by omega)]; exact q5
      · rw [gI_pI, if_neg (by omega), en]; exact q6
      · rw [gI_pI, if_pos ⟨rfl, rfl⟩, kn]; exact n_0
      · rw [gI_pI, if_neg (by omega)]; exact q8
  -- blanks
  have BL : ∀ (d i : Nat) (g : mH), i + d = n → rn cB z n a = rn cB z n i → Ce taS h g → gI g 1 6 = iI i → Vw G jX9_advance 0 [some (.ref 1), none] [] g Q := by
    intro d
    induction d with
    | zero =>
      intro i g hin hr hC g6
      refine bX9_advance_0 (hC.iv hi) ⟨fun _ => BE i g (by omega) (by rw [hr, rn_0 (by omega)]) hC g6, fun w => absurd ?_ w⟩
      rw [z5 hC, g6, le_n (by omega) (by omega)]; omega
    | succ d ih =>
      intro i g hin hr hC g6
      have e1 : iI (i : Int) + 1 = iI ((i + 1 : Nat) : Int) := by rw [n_1, ad_n]
      refine bX9_advance_0 (hC.iv hi) ⟨fun w => ?_, fun _ => ?_⟩
      · rw [z5 hC, g6, le_n (by omega) (by omega)] at w
        omega
      · rw [g6, ix_n (by omega), z2 hC i (by omega), isB_b (rz i (by omega)), e1]
        refine ⟨in_n (by omega) (by omega), fun w => ?_, fun w => ?_⟩
        · rw [bL_0] at w
          exact BE i g (by omega) (by rw [hr, rn_0 (fun y => by rw [w] at y; exact absurd y.2 (by decide))]) hC g6
        · rw [bL_1] at w
          exact ih (i + 1) _ (by omega) (by rw [hr]; exact rn_s ⟨by omega, w⟩) (hC.pI rfl _) (by rw [gI_pI, if_pos ⟨rfl, rfl⟩])
  have start := BL (n - a) a h (by omega) rfl Ce.rf h6
  have e1 : iI (a : Int) + 1 = iI ((a + 1 : Nat) : Int) := by rw [n_1, ad_n]
  refine eX9_advance hi ⟨fun w => ?_, fun w => ?_⟩
  · rw [h5, h6, le_n (by omega) (by omega)] at w
    exact BE a h ha (rn_0 (by omega)) Ce.rf h6
  · rw [h5, h6, le_n (by omega) (by omega)] at w
    rw [h6, ix_n (by omega), (hz a (by omega)).1, isB_b (rz a (by omega)), e1]
    refine ⟨in_n (by omega) (by omega), fun y => ?_, fun y => ?_⟩
    · rw [bL_0] at y
      exact BE a h ha (rn_0 (fun x => by rw [y] at x; exact absurd x.2 (by decide))) Ce.rf h6
    · rw [bL_1] at y
      exact BL (n - (a + 1)) (a + 1) _ (by omega) (rn_s ⟨by omega, y⟩) (Ce.rf.pI rfl _) (by rw [gI_pI, if_pos ⟨rfl, rfl⟩])
end TOK
