section EVE
def bt (R y : Nat) : Bool := R / 2 ^ y % 2 == 1
def rm (R y : Nat) : Nat := R - 2 ^ y
def pc (R : Nat) : Nat := cnt (bt R) 8
theorem bt_rm : ∀ R, R < 256 → ∀ y, y < 8 → bt R y = true → rm R y < R ∧ (∀ z, z < 8 → bt (rm R y) z = (bt R z && z != y)) ∧ pc (rm R y) + 1 = pc R := by decide +kernel
theorem pc_0 : ∀ R, R < 256 → pc R = 0 → R = 0 := by decide +kernel
theorem pc_pos : ∀ R, R < 256 → 0 < pc R → ∃ y, y < 8 ∧ bt R y = true := by decide +kernel
theorem bt_0 (y : Nat) : bt 0 y = false := by unfold bt; simp
theorem pc_8 (R : Nat) : pc R ≤ 8 := cnt_le _ _
/-- the least of f over the good ones; MUCH, if there is none -/
def mnV (f : Nat → Nat) (g : Nat → Bool) : Nat → Nat
  | 0 => 1000000
  | y + 1 => if g y then min (mnV f g y) (f y) else mnV f g y
theorem mnV_le {f : Nat → Nat} {g : Nat → Bool} : ∀ n y, y < n → g y = true → mnV f g n ≤ f y
  | n + 1, y, hy, hg => by
    unfold mnV
    by_cases e : y = n
    · subst e
      rw [if_pos hg]
      exact Nat.min_le_right _ _
    · have := mnV_le (f := f) n y (by omega) hg
      split
      · exact Nat.le_trans (Nat.min_le_left _ _) this
      · exact this
theorem mnV_at {f : Nat → Nat} {g : Nat → Bool} : ∀ n, mnV f g n < 1000000 → ∃ y, y < n ∧ g y = true ∧ f y = mnV f g n
  | 0, h => absurd h (by unfold mnV; omega)
  | n + 1, h => by
    unfold mnV at h ⊢
    by_cases hg : g n = true
    · rw [if_pos hg] at h ⊢
      by_cases c : mnV f g n ≤ f n
      · rw [Nat.min_eq_left c] at h ⊢
        obtain ⟨y, a, b, d⟩ := mnV_at n h
        exact ⟨y, by omega, b, d⟩
      · rw [Nat.min_eq_right (by omega)] at h ⊢
        exact ⟨n, by omega, hg, rfl⟩
    · rw [if_neg hg] at h ⊢
      obtain ⟨y, a, b, d⟩ := mnV_at n h
      exact ⟨y, by omega, b, d⟩
theorem mnV_cg {f f' : Nat → Nat} {g : Nat → Bool} : ∀ n, (∀ y, y < n → g y = true → f y = f' y) → mnV f g n = mnV f' g n
  | 0, _ => rfl
  | n + 1, h => by
    unfold mnV
    rw [mnV_cg n (fun y hy => h y (by omega))]
    split
    · rename_i hg
      rw [h n (by omega) hg]
    · rfl
def rsV (D : Nat → Nat → Nat) : Nat → Nat → Nat → Nat
  | 0, _, _ => 0
  | q + 1, R, x => mnV (fun y => D x y + rsV D q (rm R y) y) (bt R) 8
def frV (D : Nat → Nat → Nat) : Nat → Nat → Nat → Nat
  | 0, _, _ => 0
  | q + 1, R, x => mnV (fun y => min (D x y + frV D q (rm R y) y) (D 9 y + rsV D q (rm R y) y)) (bt R) 8
variable {D : Nat → Nat → Nat} {S n : Nat}
theorem rsV_b (hD : ∀ x y, D x y ≤ 100) : ∀ q R x, R < 256 → pc R = q → rsV D q R x ≤ 100 * q
  | 0, _, _, _, _ => Nat.zero_le _
  | q + 1, R, x, hR, hq => by
    obtain ⟨y, y1, y2⟩ := pc_pos R hR (by omega)
    obtain ⟨r1, r2, r3⟩ := bt_rm R hR y y1 y2
    have := rsV_b hD q (rm R y) y (by omega) (by omega)
    have h1 := hD x y
    have h2 := mnV_le (f := fun y => D x y + rsV D q (rm R y) y) (g := bt R) 8 y y1 y2
    unfold rsV
    have h3 : (fun y => D x y + rsV D q (rm R y) y) y = D x y + rsV D q (rm R y) y := rfl
    omega
theorem frV_b (hD : ∀ x y, D x y ≤ 100) : ∀ q R x, R < 256 → pc R = q → frV D q R x ≤ 100 * q
  | 0, _, _, _, _ => Nat.zero_le _
  | q + 1, R, x, hR, hq => by
    obtain ⟨y, y1, y2⟩ := pc_pos R hR (by omega)
    obtain ⟨r1, r2, r3⟩ := bt_rm R hR y y1 y2
    have := frV_b hD q (rm R y) y (by omega) (by omega)
    have h1 := hD x y
    have h2 := mnV_le (f := fun y => min (D x y + frV D q (rm R y) y) (D 9 y + rsV D q (rm R y) y)) (g := bt R) 8 y y1 y2
    unfold frV
    have h3 : (fun y => min (D x y + frV D q (rm R y) y) (D 9 y + rsV D q (rm R y) y)) y = min (D x y + frV D q (rm R y) y) (D 9 y + rsV D q (rm R y) y) := rfl
    have h4 := Nat.min_le_left (D x y + frV D q (rm R y) y) (D 9 y + rsV D q (rm R y) y)
    omega
def prv (f : Nat → Nat) (k : Nat) : Nat := if k = 0 then 8 else f (k - 1)
theorem prv_s (f : Nat → Nat) (k : Nat) : prv f (k + 1) = f k := by unfold prv; rw [if_neg (by omega)]; rfl
def frm (f : Nat → Nat) (b k : Nat) : Nat := if k = b ∧ 0 < k then 9 else prv f k
/-- what the first k drawings cost, with tea ahead of drawing b (0: none) -/
def Cp (D : Nat → Nat → Nat) (f : Nat → Nat) (b : Nat) : Nat → Nat
  | 0 => 0
  | k + 1 => Cp D f b k + D (frm f b k) (f k)
def tl (D : Nat → Nat → Nat) (f : Nat → Nat) (b : Nat) : Nat → Nat → Nat
  | 0, _ => 0
  | q + 1, k => D (frm f b k) (f k) + tl D f b q (k + 1)
theorem Cp_tl (f : Nat → Nat) (b : Nat) : ∀ q k, Cp D f b (k + q) = Cp D f b k + tl D f b q k
  | 0, k => rfl
  | q + 1, k => by
    rw [show k + (q + 1) = k + 1 + q from by omega, Cp_tl f b q (k + 1)]
    show Cp D f b k + D (frm f b k) (f k) + tl D f b q (k + 1) = Cp D f b k + (D (frm f b k) (f k) + tl D f b q (k + 1))
    omega
theorem Cp_cg {f g : Nat → Nat} (b : Nat) : ∀ k, (∀ i, i < k → f i = g i) → Cp D f b k = Cp D g b k
  | 0, _ => rfl
  | k + 1, h => by
    unfold Cp
    rw [Cp_cg b k (fun i hi => h i (by omega)), h k (by omega)]
    congr 2
    unfold frm prv
    split
    · rfl
    · split
      · rfl
      · exact h (k - 1) (by omega)
theorem Cp_b (hD : ∀ x y, D x y ≤ 100) (f : Nat → Nat) (b : Nat) : ∀ k, Cp D f b k ≤ 100 * k
  | 0 => Nat.zero_le _
  | k + 1 => by
    have h1 := Cp_b hD f b k
    have h2 := hD (frm f b k) (f k)
    unfold Cp
    omega
/-- an order of a set -/
def pm (S n : Nat) (f : Nat → Nat) : Prop := (∀ i, i < n → f i < 8 ∧ bt S (f i) = true) ∧ (∀ i j, i < n → j < n → f i = f j → i = j) ∧ ∀ x, x < 8 → bt S x = true → ∃ i, i < n ∧ f i = x
/-- the first k of an order, and what is left of the set -/
def px (S n : Nat) (e : Nat → Nat) (k R : Nat) : Prop := (∀ i, i < k → e i < 8 ∧ bt S (e i) = true) ∧ (∀ i j, i < k → j < k → e i = e j → i = j) ∧ R < 256 ∧ (∀ y, y < 8 → (bt R y = true ↔ (bt S y = true ∧ ∀ i, i < k → e i ≠ y))) ∧ k + pc R = n
theorem px_0 (hS : S < 256) (hn : n = pc S) (e : Nat → Nat) : px S n e 0 S := ⟨fun i hi => absurd hi (by omega), fun i j hi => absurd hi (by omega), hS, fun y _ => ⟨fun z => ⟨z, fun i hi => absurd hi (by omega)⟩, fun z => z.1⟩, by omega⟩
theorem px_s {e e' : Nat → Nat} {k R y : Nat} (h : px S n e k R) (hy : y < 8) (hb : bt R y = true) (he : ∀ i, i < k → e' i = e i) (hk : e' k = y) : px S n e' (k + 1) (rm R y) := by
  obtain ⟨a1, a2, a3, a4, a5⟩ := h
  obtain ⟨r1, r2, r3⟩ := bt_rm R a3 y hy hb
  have hyS := (a4 y hy).mp hb
  refine ⟨fun i hi => ?_, fun i j hi hj hij => ?_, by omega, fun z hz => ?_, by omega⟩
  · by_cases c : i = k
    · subst c; rw [hk]; exact ⟨hy, hyS.1⟩
    · rw [he i (by omega)]; exact a1 i (by omega)
  · by_cases c : i = k
    · by_cases d : j = k
      · omega
      · subst c
        rw [hk, he j (by omega)] at hij
        exact absurd hij.symm (hyS.2 j (by omega))
    · by_cases d : j = k
      · subst d
        rw [hk, he i (by omega)] at hij
        exact absurd hij (hyS.2 i (by omega))
      · rw [he i (by omega), he j (by omega)] at hij
        exact a2 i j (by omega) (by omega) hij
  · rw [r2 z hz, Bool.and_eq_true, bne_iff_ne, a4 z hz]
    constructor
    · intro ⟨⟨w1, w2⟩, w3⟩
      refine ⟨w1, fun i hi => ?_⟩
      by_cases c : i = k
      · subst c; rw [hk]; exact fun q => w3 q.symm
      · rw [he i (by omega)]; exact w2 i (by omega)
    · intro ⟨w1, w2⟩
      refine ⟨⟨w1, fun i hi => ?_⟩, fun q => ?_⟩
      · rw [← he i hi]; exact w2 i (by omega)
      · have := w2 k (by omega)
        rw [hk] at this
        exact this q.symm
theorem px_n {e : Nat → Nat} {R : Nat} (h : px S n e n R) : pm S n e := by
  obtain ⟨a1, a2, a3, a4, a5⟩ := h
  have hR := pc_0 R a3 (by omega)
  refine ⟨a1, a2, fun x hx hb => ?_⟩
  refine Classical.byContradiction (fun z => ?_)
  have := (a4 x hx).mpr ⟨hb, fun i hi q => z ⟨i, hi, q⟩⟩
  rw [hR, bt_0] at this
  cases this
theorem px_pm {f : Nat → Nat} {k R : Nat} (hf : pm S n f) (h : px S n f k R) (hk : k < n) : bt R (f k) = true := by
  obtain ⟨a1, a2, a3, a4, a5⟩ := h
  refine (a4 _ (hf.1 k hk).1).mpr ⟨(hf.1 k hk).2, fun i hi q => ?_⟩
  have := hf.2.1 i k (by omega) hk q
  omega
theorem tl_rs {f : Nat → Nat} (hf : pm S n f) {b : Nat} : ∀ q k R, px S n f k R → pc R = q → (b = 0 ∨ b < k) → rsV D q R (prv f k) ≤ tl D f b q k
  | 0, _, _, _, _, _ => Nat.zero_le _
  | q + 1, k, R, h, hq, hb => by
    have hk : k < n := by have := h.2.2.2.2; omega
    have hbt := px_pm hf h hk
    have h8 := (hf.1 k hk).1
    have hs := px_s h h8 hbt (fun _ _ => rfl) rfl
    have ih := tl_rs hf (b := b) q (k + 1) (rm R (f k)) hs (by have := (bt_rm R h.2.2.1 _ h8 hbt).2.2; omega) (by omega)
    rw [prv_s] at ih
    have hm := mnV_le (f := fun y => D (prv f k) y + rsV D q (rm R y) y) (g := bt R) 8 (f k) h8 hbt
    unfold rsV tl frm
    rw [if_neg (by omega)]
    exact Nat.le_trans hm (Nat.add_le_add_left ih _)
theorem tl_fr {f : Nat → Nat} (hf : pm S n f) {b : Nat} : ∀ q k R, px S n f k R → pc R = q → frV D q R (prv f k) ≤ tl D f b q k
  | 0, _, _, _, _ => Nat.zero_le _
  | q + 1, k, R, h, hq => by
    have hk : k < n := by have := h.2.2.2.2; omega
    have hbt := px_pm hf h hk
    have h8 := (hf.1 k hk).1
    have hs := px_s h h8 hbt (fun _ _ => rfl) rfl
    have hp : pc (rm R (f k)) = q := by have := (bt_rm R h.2.2.1 _ h8 hbt).2.2; omega
    have hm := mnV_le (f := fun y => min (D (prv f k) y + frV D q (rm R y) y) (D 9 y + rsV D q (rm R y) y)) (g := bt R) 8 (f k) h8 hbt
    unfold frV tl frm
    by_cases c : k = b ∧ 0 < k
    · rw [if_pos c]
      have ih := tl_rs (D := D) hf (b := b) q (k + 1) (rm R (f k)) hs hp (by omega)
      rw [prv_s] at ih
      exact Nat.le_trans hm (Nat.le_trans (Nat.min_le_right _ _) (Nat.add_le_add_left ih _))
    · rw [if_neg c]
      have ih := tl_fr hf (b := b) q (k + 1) (rm R (f k)) hs hp
      rw [prv_s] at ih
      exact Nat.le_trans hm (Nat.le_trans (Nat.min_le_left _ _) (Nat.add_le_add_left ih _))
theorem at_rs (hD : ∀ x y, D x y ≤ 100) : ∀ q k R e, px S n e k R → pc R = q → ∃ f, pm S n f ∧ (∀ i, i < k → f i = e i) ∧ ∀ b, (b = 0 ∨ b < k) → tl D f b q k = rsV D q R (prv e k)
  | 0, k, R, e, h, hq => by
    have : k = n := by have := h.2.2.2.2; omega
    subst this
    exact ⟨e, px_n h, fun _ _ => rfl, fun _ _ => rfl⟩
  | q + 1, k, R, e, h, hq => by
    have hb := rsV_b hD (q + 1) R (prv e k) h.2.2.1 hq
    have hq8 := pc_8 R
    unfold rsV at hb
    obtain ⟨y, y1, y2, y3⟩ := mnV_at 8 (show mnV (fun y => D (prv e k) y + rsV D q (rm R y) y) (bt R) 8 < 1000000 by omega)
    have hs := px_s (e' := fun i => if i = k then y else e i) h y1 y2 (fun i hi => if_neg (by omega)) (if_pos rfl)
    have hp : pc (rm R y) = q := by have := (bt_rm R h.2.2.1 _ y1 y2).2.2; omega
    obtain ⟨f, f1, f2, f3⟩ := at_rs hD q (k + 1) (rm R y) _ hs hp
    have fk : f k = y := by rw [f2 k (by omega)]; exact if_pos rfl
    have fl : ∀ i, i < k → f i = e i := fun i hi => by rw [f2 i (by omega)]; exact if_neg (by omega)
    refine ⟨f, f1, fl, fun b hb => ?_⟩
    have := f3 b (by omega)
    rw [prv_s] at this
    unfold tl frm rsV
    rw [if_neg (by omega), this, ← y3, fk]
    have hpr : prv f k = prv e k := by
      unfold prv
      split
      · rfl
      · exact fl (k - 1) (by omega)
    rw [hpr, if_pos rfl]
theorem at_fr (hD : ∀ x y, D x y ≤ 100) : ∀ q k R e, 0 < k → px S n e k R → pc R = q → ∃ f b, pm S n f ∧ (∀ i, i < k → f i = e i) ∧ (b = 0 ∨ (k ≤ b ∧ b < n)) ∧ tl D f b q k = frV D q R (prv e k)
  | 0, k, R, e, h0, h, hq => by
    have : k = n := by have := h.2.2.2.2; omega
    subst this
    exact ⟨e, 0, px_n h, fun _ _ => rfl, .inl rfl, rfl⟩
  | q + 1, k, R, e, h0, h, hq => by
    have hb := frV_b hD (q + 1) R (prv e k) h.2.2.1 hq
    have hq8 := pc_8 R
    have hkn : k < n := by have := h.2.2.2.2; omega
    unfold frV at hb
    obtain ⟨y, y1, y2, y3⟩ := mnV_at 8 (show mnV (fun y => min (D (prv e k) y + frV D q (rm R y) y) (D 9 y + rsV D q (rm R y) y)) (bt R) 8 < 1000000 by omega)
    have hs := px_s (e' := fun i => if i = k then y else e i) h y1 y2 (fun i hi => if_neg (by omega)) (if_pos rfl)
    have hp : pc (rm R y) = q := by have := (bt_rm R h.2.2.1 _ y1 y2).2.2; omega
    have pre : ∀ f : Nat → Nat, (∀ i, i < k + 1 → f i = (if i = k then y else e i)) → f k = y ∧ (∀ i, i < k → f i = e i) ∧ prv f k = prv e k := fun f f2 => by
      have fl : ∀ i, i < k → f i = e i := fun i hi => by rw [f2 i (by omega)]; exact if_neg (by omega)
      refine ⟨by rw [f2 k (by omega)]; exact if_pos rfl, fl, ?_⟩
      unfold prv
      split
      · rfl
      · exact fl (k - 1) (by omega)
    have y3' : min (D (prv e k) y + frV D q (rm R y) y) (D 9 y + rsV D q (rm R y) y) = mnV (fun y => min (D (prv e k) y + frV D q (rm R y) y) (D 9 y + rsV D q (rm R y) y)) (bt R) 8 := y3
    by_cases c : D (prv e k) y + frV D q (rm R y) y ≤ D 9 y + rsV D q (rm R y) y
    · rw [Nat.min_eq_left c] at y3'
      obtain ⟨f, b, f1, f2, f3, f4⟩ := at_fr hD q (k + 1) (rm R y) _ (by omega) hs hp
      obtain ⟨g1, g2, g3⟩ := pre f f2
      rw [prv_s, if_pos rfl] at f4
      refine ⟨f, b, f1, g2, by omega, ?_⟩
      unfold tl frm frV
      rw [if_neg (by omega), f4, g1, g3]
      exact y3'
    · rw [Nat.min_eq_right (by omega)] at y3'
      obtain ⟨f, f1, f2, f3⟩ := at_rs hD q (k + 1) (rm R y) _ hs hp
      obtain ⟨g1, g2, g3⟩ := pre f f2
      have f4 := f3 k (by omega)
      rw [prv_s, if_pos rfl] at f4
      refine ⟨f, k, f1, g2, by omega, ?_⟩
      unfold tl frm frV
      rw [if_pos ⟨rfl, h0⟩, f4, g1]
      exact y3'
/-- order f stands ahead of order g -/
def llt (n : Nat) (f g : Nat → Nat) : Prop := ∃ i, i < n ∧ f i < g i ∧ ∀ j, j < i → f j = g j
theorem llt_cmp (f g : Nat → Nat) : ∀ n, (∀ i, i < n → f i = g i) ∨ llt n f g ∨ llt n g f
  | 0 => .inl (fun i hi => absurd hi (by omega))
  | n + 1 => by
    rcases llt_cmp f g n with h | ⟨i, a, b, c⟩ | ⟨i, a, b, c⟩
    · rcases Nat.lt_trichotomy (f n) (g n) with l | l | l
      · exact .inr (.inl ⟨n, by omega, l, h⟩)
      · refine .inl (fun i hi => ?_)
        by_cases e : i = n
        · subst e; exact l
        · exact h i (by omega)
      · exact .inr (.inr ⟨n, by omega, l, fun j hj => (h j hj).symm⟩)
    · exact .inr (.inl ⟨i, by omega, b, c⟩)
    · exact .inr (.inr ⟨i, by omega, b, c⟩)
theorem llt_as {f g : Nat → Nat} (h1 : llt n f g) (h2 : llt n g f) : False := by
  obtain ⟨i, a, b, c⟩ := h1
  obtain ⟨j, d, e, k⟩ := h2
  rcases Nat.lt_trichotomy i j with l | l | l
  · have := k i l; omega
  · subst l; omega
  · have := c j l; omega
theorem llt_ne {f g : Nat → Nat} (h1 : llt n f g) (h2 : ∀ i, i < n → f i = g i) : False := by
  obtain ⟨i, a, b, c⟩ := h1
  have := h2 i a
  omega
theorem llt_tr {f g m : Nat → Nat} (h1 : llt n f g) (h2 : llt n g m) : llt n f m := by
  obtain ⟨i, a, b, c⟩ := h1
  obtain ⟨j, d, e, k⟩ := h2
  rcases Nat.lt_trichotomy i j with l | l | l
  · exact ⟨i, a, by rw [← k i l]; exact b, fun x hx => (c x hx).trans (k x (by omega))⟩
  · subst l; exact ⟨i, a, by omega, fun x hx => (c x hx).trans (k x hx)⟩
  · exact ⟨j, d, by rw [c j l]; exact e, fun x hx => (c x (by omega)).trans (k x hx)⟩
theorem llt_cg {f g f' g' : Nat → Nat} (h1 : ∀ i, i < n → f' i = f i) (h2 : ∀ i, i < n → g' i = g i) (h : llt n f g) : llt n f' g' := by
  obtain ⟨i, a, b, c⟩ := h
  exact ⟨i, a, by rw [h1 i a, h2 i a]; exact b, fun j hj => by rw [h1 j (by omega), h2 j (by omega)]; exact c j hj⟩
/-- v is the fewest, by order e with tea t: the first of those that cost v -/
def fsb (D : Nat → Nat → Nat) (S n v : Nat) (e : Nat → Nat) (t : Nat) : Prop := pm S n e ∧ t < n ∧ v = Cp D e t n ∧ ∀ m b, pm S n m → b < n → v < Cp D m b n ∨ (v = Cp D m b n ∧ (llt n e m ∨ ((∀ i, i < n → e i = m i) ∧ t ≤ b)))
theorem fsb_u {v v' t t' : Nat} {e e' : Nat → Nat} (h : fsb D S n v e t) (h' : fsb D S n v' e' t') : v = v' ∧ (∀ i, i < n → e i = e' i) ∧ t = t' := by
  obtain ⟨a1, a2, a3, a4⟩ := h
  obtain ⟨b1, b2, b3, b4⟩ := h'
  have x := a4 e' t' b1 b2
  have y := b4 e t a1 a2
  rw [← b3] at x
  rw [← a3] at y
  rcases x with x | ⟨x1, x2⟩
  · omega
  · rcases y with y | ⟨y1, y2⟩
    · omega
    · refine ⟨x1, ?_⟩
      rcases x2 with x2 | ⟨x2, x3⟩
      · rcases y2 with y2 | ⟨y2, y3⟩
        · exact absurd (llt_as x2 y2) id
        · exact absurd (llt_ne x2 (fun i hi => (y2 i hi).symm)) id
      · rcases y2 with y2 | ⟨y2, y3⟩
        · exact absurd (llt_ne y2 (fun i hi => (x2 i hi).symm)) id
        · exact ⟨x2, by omega⟩
end EVE
