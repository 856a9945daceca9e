section EVE2
variable {D : Nat → Nat → Nat} {S n : Nat}
theorem Cp_0 {f : Nat → Nat} {b : Nat} : ∀ k, (b = 0 ∨ k ≤ b) → Cp D f b k = Cp D f 0 k
  | 0, _ => rfl
  | k + 1, h => by
    unfold Cp
    rw [Cp_0 k (by omega)]
    congr 2
    unfold frm
    rw [if_neg (by omega), if_neg (by omega)]
/-- the least cost of the first l with tea somewhere in them -/
def wOk (D : Nat → Nat → Nat) (e : Nat → Nat) (l w : Nat) : Prop := (∀ b, 0 < b → b < l → w ≤ Cp D e b l) ∧ (w = 1000000 ∨ ∃ b, 0 < b ∧ b < l ∧ w = Cp D e b l) ∧ w ≤ 1000000
def wSt (D : Nat → Nat → Nat) (e : Nat → Nat) (l w y : Nat) : Nat := min (w + D (prv e l) y) (if l = 0 then 1000000 else Cp D e 0 l + D 9 y)
theorem wOk_s (hD : ∀ x y, D x y ≤ 100) {e e' : Nat → Nat} {l w y : Nat} (hl : l ≤ 8) (h : wOk D e l w) (he : ∀ i, i < l → e' i = e i) (hy : e' l = y) : wOk D e' (l + 1) (wSt D e l w y) := by
  obtain ⟨h1, h2, h3⟩ := h
  have hp : prv e' l = prv e l := by
    unfold prv
    split
    · rfl
    · exact he (l - 1) (by omega)
  have c0 := Cp_b hD e 0 l
  have dO := hD 9 y
  have hC : ∀ b, 0 < b → b < l → Cp D e' b (l + 1) = Cp D e b l + D (prv e l) y := fun b b0 bl => by
    conv => lhs; unfold Cp
    rw [Cp_cg b l he, hy]
    unfold frm
    rw [if_neg (by omega), hp]
  have hT : 0 < l → Cp D e' l (l + 1) = Cp D e 0 l + D 9 y := fun l0 => by
    conv => lhs; unfold Cp
    rw [Cp_cg l l he, hy, Cp_0 l (.inr (Nat.le_refl _))]
    unfold frm
    rw [if_pos ⟨rfl, l0⟩]
  unfold wSt
  by_cases l0 : l = 0
  · rw [if_pos l0]
    refine ⟨fun b b0 bl => by omega, .inl ?_, Nat.min_le_right _ _⟩
    rcases h2 with h2 | ⟨b, b0, bl, _⟩
    · rw [h2]; exact Nat.min_eq_right (by omega)
    · omega
  · rw [if_neg l0]
    refine ⟨fun b b0 bl => ?_, .inr ?_, ?_⟩
    · by_cases c : b = l
      · subst c
        rw [hT b0]
        exact Nat.min_le_right _ _
      · rw [hC b b0 (by omega)]
        have := h1 b b0 (by omega)
        exact Nat.le_trans (Nat.min_le_left _ _) (by omega)
    · by_cases c : w + D (prv e l) y ≤ Cp D e 0 l + D 9 y
      · rw [Nat.min_eq_left c]
        rcases h2 with h2 | ⟨b, b0, bl, hb⟩
        · omega
        · exact ⟨b, b0, by omega, by rw [hC b b0 bl, hb]⟩
      · rw [Nat.min_eq_right (by omega)]
        exact ⟨l, by omega, by omega, (hT (by omega)).symm⟩
    · exact Nat.le_trans (Nat.min_le_right _ _) (by omega)
def thr (D : Nat → Nat → Nat) (e : Nat → Nat) (l w R y : Nat) : Nat := min (Cp D e 0 l + D (prv e l) y + frV D (pc (rm R y)) (rm R y) y) (wSt D e l w y + rsV D (pc (rm R y)) (rm R y) y)
theorem thr_b (hD : ∀ x y, D x y ≤ 100) {e : Nat → Nat} {l w R y : Nat} (hl : l ≤ 8) (hR : R < 256) (hy : y < 8) (hb : bt R y = true) : thr D e l w R y ≤ 2000 := by
  have c0 := Cp_b hD e 0 l
  have d0 := hD (prv e l) y
  have r := (bt_rm R hR y hy hb).1
  have f0 := frV_b hD (pc (rm R y)) (rm R y) y (by omega) rfl
  have p8 := pc_8 (rm R y)
  unfold thr
  exact Nat.le_trans (Nat.min_le_left _ _) (by omega)
theorem thr_ok (hD : ∀ x y, D x y ≤ 100) {e : Nat → Nat} {l w R y : Nat} (hl : l ≤ 8) (hx : px S n e l R) (hy : y < 8) (hb : bt R y = true) (hw : wOk D e l w) :
    (∀ m b, pm S n m → b < n → (∀ i, i < l → m i = e i) → m l = y → thr D e l w R y ≤ Cp D m b n) ∧ ∃ m b, pm S n m ∧ b < n ∧ (∀ i, i < l → m i = e i) ∧ m l = y ∧ Cp D m b n = thr D e l w R y := by
  have hr := bt_rm R hx.2.2.1 y hy hb
  have hs := px_s (e' := fun i => if i = l then y else e i) hx hy hb (fun i hi => if_neg (by omega)) (if_pos rfl)
  have hn : l + 1 + pc (rm R y) = n := hs.2.2.2.2
  have key : ∀ (m : Nat → Nat) (b : Nat), (∀ i, i < l → m i = e i) → m l = y → Cp D m b n = Cp D e b l + D (if l = b ∧ 0 < l then 9 else prv e l) y + tl D m b (pc (rm R y)) (l + 1) := fun m b h1 h2 => by
    rw [← hn, Cp_tl]
    congr 1
    conv => lhs; unfold Cp
    rw [Cp_cg b l h1, h2]
    unfold frm
    have : prv m l = prv e l := by
      unfold prv
      split
      · rfl
      · exact h1 (l - 1) (by omega)
    rw [this]
  constructor
  · intro m b hm hbn h1 h2
    have hxm := px_s (e' := m) hx hy hb h1 h2
    rw [key m b h1 h2]
    unfold thr
    by_cases c1 : b = 0 ∨ l < b
    · rw [if_neg (show ¬ (l = b ∧ 0 < l) by omega), Cp_0 (b := b) l (by omega)]
      have := tl_fr (D := D) hm (b := b) (pc (rm R y)) (l + 1) (rm R y) hxm rfl
      rw [prv_s, h2] at this
      exact Nat.le_trans (Nat.min_le_left _ _) (by omega)
    · have := tl_rs (D := D) hm (b := b) (pc (rm R y)) (l + 1) (rm R y) hxm rfl (by omega)
      rw [prv_s, h2] at this
      refine Nat.le_trans (Nat.min_le_right _ _) ?_
      unfold wSt
      by_cases c2 : b = l
      · subst c2
        rw [if_pos (show b = b ∧ 0 < b from ⟨rfl, by omega⟩), Cp_0 (b := b) b (.inr (Nat.le_refl _)), if_neg (show ¬ b = 0 by omega)]
        have := Nat.min_le_right (w + D (prv e b) y) (Cp D e 0 b + D 9 y)
        omega
      · rw [if_neg (show ¬ (l = b ∧ 0 < l) by omega)]
        have h3 := hw.1 b (by omega) (by omega)
        have := Nat.min_le_left (w + D (prv e l) y) (if l = 0 then 1000000 else Cp D e 0 l + D 9 y)
        omega
  · have hpr : prv (fun i => if i = l then y else e i) (l + 1) = y := by rw [prv_s]; exact if_pos rfl
    by_cases c : Cp D e 0 l + D (prv e l) y + frV D (pc (rm R y)) (rm R y) y ≤ wSt D e l w y + rsV D (pc (rm R y)) (rm R y) y
    · obtain ⟨m, b, m1, m2, m3, m4⟩ := at_fr hD (pc (rm R y)) (l + 1) (rm R y) _ (by omega) hs rfl
      have g1 : ∀ i, i < l → m i = e i := fun i hi => by rw [m2 i (by omega)]; exact if_neg (by omega)
      have g2 : m l = y := by rw [m2 l (by omega)]; exact if_pos rfl
      refine ⟨m, b, m1, by omega, g1, g2, ?_⟩
      rw [key m b g1 g2, m4, hpr, if_neg (show ¬ (l = b ∧ 0 < l) by omega), Cp_0 (b := b) l (by omega)]
      unfold thr
      rw [Nat.min_eq_left c]
    · obtain ⟨m, m1, m2, m3⟩ := at_rs hD (pc (rm R y)) (l + 1) (rm R y) _ hs rfl
      have g1 : ∀ i, i < l → m i = e i := fun i hi => by rw [m2 i (by omega)]; exact if_neg (by omega)
      have g2 : m l = y := by rw [m2 l (by omega)]; exact if_pos rfl
      have hw' := wOk_s (e' := m) hD hl hw g1 g2
      rcases hw'.2.1 with h | ⟨b, b0, bl, hb2⟩
      · have c0 := Cp_b hD e 0 l
        have d0 := hD (prv e l) y
        have f0 := frV_b hD (pc (rm R y)) (rm R y) y (by have := hx.2.2.1; omega) rfl
        have p8 := pc_8 (rm R y)
        omega
      · refine ⟨m, b, m1, by omega, g1, g2, ?_⟩
        have m4 := m3 b (by omega)
        rw [hpr] at m4
        have : Cp D m b n = Cp D m b (l + 1) + tl D m b (pc (rm R y)) (l + 1) := by rw [← hn, Cp_tl]
        rw [this, m4, ← hb2]
        unfold thr
        rw [Nat.min_eq_right (by omega)]
theorem fb_sp {g : Nat → Bool} {t : Nat → Nat} : ∀ n, (∀ r d, fb g t n = some (r, d) → r < n ∧ g r = true ∧ d = t r ∧ ∀ y, y < n → g y = true → d < t y ∨ (d = t y ∧ r ≤ y)) ∧ (fb g t n = none → ∀ y, y < n → g y = false)
  | 0 => ⟨fun r d e => (by cases e), fun _ y hy => absurd hy (by omega)⟩
  | n + 1 => by
    obtain ⟨i1, i2⟩ := fb_sp (g := g) (t := t) n
    cases hg : g n with
    | false =>
      rw [fb_skip hg]
      refine ⟨fun r d e => ?_, fun e y hy => ?_⟩
      · obtain ⟨a, b, c, f⟩ := i1 r d e
        refine ⟨by omega, b, c, fun y hy gy => ?_⟩
        by_cases c : y = n
        · subst c; rw [hg] at gy; cases gy
        · exact f y (by omega) gy
      · by_cases c : y = n
        · subst c; exact hg
        · exact i2 e y (by omega)
    | true =>
      cases e : fb g t n with
      | none =>
        rw [fb_first hg e]
        refine ⟨fun r d e2 => ?_, fun e2 => (by cases e2)⟩
        cases e2
        refine ⟨by omega, hg, rfl, fun y hy gy => ?_⟩
        by_cases c : y = n
        · subst c; exact .inr ⟨rfl, Nat.le_refl _⟩
        · rw [i2 e y (by omega)] at gy; cases gy
      | some x =>
        obtain ⟨r0, d0⟩ := x
        obtain ⟨a, b, c, f⟩ := i1 r0 d0 e
        by_cases l : t n < d0
        · rw [fb_less hg e l]
          refine ⟨fun r d e2 => ?_, fun e2 => (by cases e2)⟩
          cases e2
          refine ⟨by omega, hg, rfl, fun y hy gy => ?_⟩
          by_cases c : y = n
          · subst c; exact .inr ⟨rfl, Nat.le_refl _⟩
          · have := f y (by omega) gy
            exact .inl (by omega)
        · rw [fb_more e (by omega), e]
          refine ⟨fun r d e2 => ?_, fun e2 => (by cases e2)⟩
          cases e2
          refine ⟨by omega, b, c, fun y hy gy => ?_⟩
          by_cases c : y = n
          · subst c; omega
          · exact f y (by omega) gy
/-- what is known of the chosen ones -/
def chI (D : Nat → Nat → Nat) (S n : Nat) (e : Nat → Nat) (l M : Nat) : Prop := (∀ m b, pm S n m → b < n → M ≤ Cp D m b n) ∧ (∀ m b, pm S n m → b < n → (∃ i, i < l ∧ m i < e i ∧ ∀ j, j < i → m j = e j) → M < Cp D m b n) ∧ ∃ m b, pm S n m ∧ b < n ∧ (∀ i, i < l → m i = e i) ∧ Cp D m b n = M
theorem chI_s (hD : ∀ x y, D x y ≤ 100) {e e' : Nat → Nat} {l w R r M M0 : Nat} (hl : l < n) (hl8 : l ≤ 8) (hx : px S n e l R) (hw : wOk D e l w) (h : l = 0 ∨ chI D S n e l M0) (hf : fb (bt R) (thr D e l w R) 8 = some (r, M)) (he : ∀ i, i < l → e' i = e i) (hr : e' l = r) : chI D S n e' (l + 1) M := by
  obtain ⟨r8, rb, rM, rl⟩ := (fb_sp 8).1 r M hf
  obtain ⟨t1, t2⟩ := thr_ok hD hl8 hx r8 rb hw
  have ext : ∀ m b, pm S n m → b < n → (∀ i, i < l → m i = e i) → M ≤ Cp D m b n ∧ (m l < r → M < Cp D m b n) := fun m b hm hb ha => by
    have hm8 := (hm.1 l hl).1
    have hmb : bt R (m l) = true := px_pm (k := l) hm ⟨fun i hi => by rw [ha i hi]; exact hx.1 i hi, fun i j hi hj hij => by rw [ha i hi, ha j hj] at hij; exact hx.2.1 i j hi hj hij, hx.2.2.1, fun y hy => by
      rw [hx.2.2.2.1 y hy]
      exact ⟨fun z => ⟨z.1, fun i hi => by rw [ha i hi]; exact z.2 i hi⟩, fun z => ⟨z.1, fun i hi => by rw [← ha i hi]; exact z.2 i hi⟩⟩, hx.2.2.2.2⟩ hl
    have := (thr_ok hD hl8 hx hm8 hmb hw).1 m b hm hb ha rfl
    have h2 := rl (m l) hm8 hmb
    exact ⟨by omega, fun z => by omega⟩
  have low : ∀ m b, pm S n m → b < n → M ≤ Cp D m b n := fun m b hm hb => by
    rcases h with h | ⟨h1, h2, m0, b0, x1, x2, x3, x4⟩
    · exact (ext m b hm hb (fun i hi => by omega)).1
    · have y1 := (ext m0 b0 x1 x2 x3).1
      have y2 := h1 m b hm hb
      omega
  obtain ⟨m, b, m1, m2, m3, m4, m5⟩ := t2
  refine ⟨low, fun m b hm hb ⟨i, i1, i2, i3⟩ => ?_, m, b, m1, m2, fun i hi => ?_, by rw [m5]; exact rM.symm⟩
  · by_cases c : i = l
    · subst c
      rw [hr] at i2
      exact (ext m b hm hb (fun j hj => by rw [i3 j hj, he j hj])).2 i2
    · rcases h with h | ⟨h1, h2, m0, b0, x1, x2, x3, x4⟩
      · omega
      · have := h2 m b hm hb ⟨i, by omega, by rw [← he i (by omega)]; exact i2, fun j hj => by rw [i3 j hj, he j (by omega)]⟩
        have y1 := (ext m0 b0 x1 x2 x3).1
        omega
  · by_cases c : i = l
    · subst c; rw [m4, hr]
    · rw [m3 i (by omega), he i (by omega)]
theorem chI_fsb {e : Nat → Nat} {R M t : Nat} (hx : px S n e n R) (h : chI D S n e n M) (ht : t < n) (h1 : Cp D e t n = M) (h2 : ∀ b, b < t → Cp D e b n ≠ M) : fsb D S n M e t := by
  refine ⟨px_n hx, ht, h1.symm, fun m b hm hb => ?_⟩
  have lo := h.1 m b hm hb
  by_cases c : M < Cp D m b n
  · exact .inl c
  · refine .inr ⟨by omega, ?_⟩
    rcases llt_cmp e m n with z | z | ⟨i, i1, i2, i3⟩
    · refine .inr ⟨z, ?_⟩
      rw [Cp_cg b n (fun i hi => (z i hi).symm)] at c lo
      refine Classical.byContradiction (fun y => h2 b (by omega) (by omega))
    · exact .inl z
    · have := h.2.1 m b hm hb ⟨i, i1, i2, i3⟩
      omega
end EVE2
