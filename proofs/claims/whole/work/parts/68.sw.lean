section SW
/-- reading: a fault (kind, place), or what was read -/
def bnd {α β : Type} (r : (Nat × Nat) ⊕ α) (k : α → (Nat × Nat) ⊕ β) : (Nat × Nat) ⊕ β := match r with
  | .inl e => .inl e
  | .inr a => k a
def rNu (z : Nat → Int) (n f : Nat) (lo hi : Int) : (Nat × Nat) ⊕ (Int × Nat) := if nuW z n f lo hi = 0 then .inr (nuV z n f, adT z n f) else .inl (nuW z n f lo hi, f)
def rSn (z : Nat → Int) (n f : Nat) (hi : Int) : (Nat × Nat) ⊕ (Int × Nat) := if nuW z n (snP z n f) 0 hi = 0 then .inr (snV z n f, adT z n (snP z n f)) else .inl (nuW z n (snP z n f) 0 hi, snP z n f)
/-- told, carts, pennies told; rows: kinds, lengths, losses, settings, ticks, ways -/
abbrev SF : Type := Nat × Nat × Bool × (Nat → Nat → Int)
def upR (R : Nat → Nat → Int) (a i : Nat) (v : Int) : Nat → Nat → Int := fun a' i' => if a' = a ∧ i' = i then v else R a' i'
def kiT (z : Nat → Int) (n f : Nat) : Option Nat := if wdS z n f "even" then some 0 else if wdS z n f "bowl" then some 1 else if wdS z n f "kick" then some 2 else none
def rPen (z : Nat → Int) (n : Nat) (s : SF) (f : Nat) : (Nat × Nat) ⊕ (SF × Nat) :=
  if 4 ≤ s.1 then .inl (2, f) else match kiT z n (adT z n f) with
    | none => .inl (1, adT z n f)
    | some kd => bnd (rNu z n (adT z n (adT z n f)) 2 40) fun a => bnd (rNu z n a.2 0 90) fun b => bnd (rNu z n b.2 0 99) fun c => bnd (rNu z n c.2 0 99) fun d =>
      .inr ((s.1 + 1, s.2.1, s.2.2.1, upR (upR (upR (upR (upR s.2.2.2 0 s.1 kd) 1 s.1 a.1) 3 (8 + s.1) b.1) 3 (4 + s.1) c.1) 2 s.1 d.1), d.2)
def rCar (z : Nat → Int) (n : Nat) (s : SF) (f : Nat) : (Nat × Nat) ⊕ (SF × Nat) :=
  if 4 ≤ s.2.1 then .inl (2, f) else bnd (rNu z n (adT z n f) 0 999) fun a => bnd (rSn z n a.2 20) fun b => bnd (rSn z n b.2 20) fun c =>
    .inr ((s.1, s.2.1 + 1, s.2.2.1, upR (upR (upR s.2.2.2 4 s.2.1 a.1) 5 (2 * s.2.1) b.1) 5 (2 * s.2.1 + 1) c.1), c.2)
def rPns (z : Nat → Int) (n : Nat) : Nat → Nat → (Nat → Nat → Int) → Nat → (Nat × Nat) ⊕ ((Nat → Nat → Int) × Nat)
  | 0, _, R, f => .inr (R, f)
  | d + 1, p, R, f => bnd (rNu z n f 0 9) fun a => rPns z n d (p + 1) (upR R 3 p a.1) a.2
def rLin (z : Nat → Int) (n : Nat) (s : SF) (f : Nat) : (Nat × Nat) ⊕ (SF × Nat) :=
  if wdS z n f "pendulum" then rPen z n s f else if wdS z n f "cart" then rCar z n s f else if wdS z n f "pennies" then (if s.2.2.1 then .inl (3, f) else bnd (rPns z n 4 0 s.2.2.2 (adT z n f)) fun a => .inr ((s.1, s.2.1, true, a.1), a.2)) else .inl (1, f)
def rSem (z : Nat → Int) (n : Nat) (r : SF × Nat) : (Nat × Nat) ⊕ (SF × Nat) := if sgT z n r.2 59 then .inr (r.1, adT z n r.2) else .inl (1, r.2)
def swR (z : Nat → Int) (n : Nat) : Nat → SF → Nat → (Nat × Nat) ⊕ SF
  | 0, s, _ => .inr s
  | d + 1, s, f => if n ≤ f then .inr s else bnd (bnd (rLin z n s f) (rSem z n)) fun r => swR z n d r.1 r.2
/-- ranges of what was read -/
def SR (s : SF) : Prop := s.1 ≤ 4 ∧ s.2.1 ≤ 4 ∧ (∀ p, p < 4 → (0 ≤ s.2.2.2 0 p ∧ s.2.2.2 0 p ≤ 2) ∧ (2 ≤ s.2.2.2 1 p ∧ s.2.2.2 1 p ≤ 40) ∧ (0 ≤ s.2.2.2 2 p ∧ s.2.2.2 2 p ≤ 99) ∧ (0 ≤ s.2.2.2 3 p ∧ s.2.2.2 3 p ≤ 9) ∧ (0 ≤ s.2.2.2 3 (4 + p) ∧ s.2.2.2 3 (4 + p) ≤ 99) ∧ (0 ≤ s.2.2.2 3 (8 + p) ∧ s.2.2.2 3 (8 + p) ≤ 90)) ∧ ∀ i, i < s.2.1 → (0 ≤ s.2.2.2 4 i ∧ s.2.2.2 4 i ≤ 999) ∧ ∀ ax, ax < 2 → -20 ≤ s.2.2.2 5 (2 * i + ax) ∧ s.2.2.2 5 (2 * i + ax) ≤ 20
variable {z : Nat → Int} {n : Nat}
theorem bnd_r {α β : Type} {r : (Nat × Nat) ⊕ α} {k : α → (Nat × Nat) ⊕ β} {b : β} (h : bnd r k = .inr b) : ∃ a, r = .inr a ∧ k a = .inr b := by
  cases r with
  | inl e => cases h
  | inr a => exact ⟨a, rfl, h⟩
theorem rNu_r {f : Nat} {lo hi v : Int} {f' : Nat} (h : rNu z n f lo hi = .inr (v, f')) : nuW z n f lo hi = 0 ∧ v = nuV z n f ∧ f' = adT z n f ∧ lo ≤ v ∧ v ≤ hi := by
  unfold rNu at h
  split at h
  · rename_i c
    cases h
    have := nuV_b c
    exact ⟨c, rfl, rfl, this.1, this.2⟩
  · cases h
theorem rSn_r {f : Nat} {hi v : Int} {f' : Nat} (h : rSn z n f hi = .inr (v, f')) : nuW z n (snP z n f) 0 hi = 0 ∧ v = snV z n f ∧ f' = adT z n (snP z n f) ∧ -hi ≤ v ∧ v ≤ hi := by
  unfold rSn at h
  split at h
  · rename_i c
    cases h
    have := nuV_b c
    refine ⟨c, rfl, rfl, ?_, ?_⟩
    all_goals
      unfold snV
      split <;> omega
  · cases h
theorem nuW_f {f : Nat} {lo hi : Int} (hf : f ≤ n) (h : nuW z n f lo hi = 0) : f < n := by
  unfold nuW at h
  split at h
  · rename_i c
    exact (kdT_c.2.2.1.mp c).1
  · omega
theorem wdS_f {f : Nat} {s : String} (h : wdS z n f s = true) : f < n ∧ kdT z n f = 1 ∧ enT z n f - f = s.length := by
  unfold wdS at h
  have := of_decide_eq_true h
  exact ⟨(kdT_c.2.1.mp this.1).1, this.1, this.2.1⟩
theorem adT_lt {f : Nat} (hf : f < n) : f < adT z n f ∧ adT z n f ≤ n := by
  have a := enT_b (z := z) (n := n) (f := f) (by omega)
  have b := adT_b (z := z) (n := n) (f := f) (by omega)
  have := a.2.2 hf
  omega
theorem sgT_f {f : Nat} {c : Int} (h : sgT z n f c = true) : f < n := by
  unfold sgT at h
  exact (kdT_c.2.2.2.1.mp (of_decide_eq_true h).1).1
theorem rPen_r {s s' : SF} {f f' : Nat} (hf : f < n) (hs : SR s) (h : rPen z n s f = .inr (s', f')) : SR s' ∧ f < f' ∧ f' ≤ n := by
  unfold rPen at h
  split at h
  · cases h
  · rename_i c4
    split at h
    · cases h
    · rename_i kd hk
      obtain ⟨a, ha, h⟩ := bnd_r h
      obtain ⟨b, hb, h⟩ := bnd_r h
      obtain ⟨c, hc, h⟩ := bnd_r h
      obtain ⟨d, hd, h⟩ := bnd_r h
      obtain ⟨a1, a2, a3, a4, a5⟩ := rNu_r ha
      obtain ⟨b1, b2, b3, b4, b5⟩ := rNu_r hb
      obtain ⟨c1, c2, c3, c4', c5⟩ := rNu_r hc
      obtain ⟨d1, d2, d3, d4, d5⟩ := rNu_r hd
      have kd2 : kd ≤ 2 := by
        unfold kiT at hk
        repeat' split at hk
        all_goals first | (cases hk; omega) | cases hk
      have l1 := adT_lt (z := z) hf
      have l2 := adT_b (z := z) (n := n) (f := adT z n f) (by omega)
      have l2' := enT_b (z := z) (n := n) (f := adT z n f) (by omega)
      have l3 := adT_b (z := z) (n := n) (f := adT z n (adT z n f)) (by omega)
      have l3' := enT_b (z := z) (n := n) (f := adT z n (adT z n f)) (by omega)
      have l4 := adT_b (z := z) (n := n) (f := a.2) (by omega)
      have l4' := enT_b (z := z) (n := n) (f := a.2) (by omega)
      have l5 := adT_b (z := z) (n := n) (f := b.2) (by omega)
      have l5' := enT_b (z := z) (n := n) (f := b.2) (by omega)
      have l6 := adT_b (z := z) (n := n) (f := c.2) (by omega)
      have l6' := enT_b (z := z) (n := n) (f := c.2) (by omega)
      cases h
      obtain ⟨s1, s2, s3, s4⟩ := hs
      refine ⟨⟨by show s.1 + 1 ≤ 4; omega, s2, fun p hp => ?_, fun i hi => ?_⟩, by omega, by omega⟩
      · obtain ⟨u1, u2, u3, u4, u5, u6⟩ := s3 p hp
        unfold upR
        simp only
        refine ⟨?_, ?_, ?_, ?_, ?_, ?_⟩ <;> repeat' split
        all_goals omega
      · obtain ⟨u1, u2⟩ := s4 i hi
        unfold upR
        simp only
        refine ⟨?_, fun ax hax => ?_⟩
        · repeat' split
          all_goals omega
        · have := u2 ax hax
          repeat' split
          all_goals omega
theorem rCar_r {s s' : SF} {f f' : Nat} (hf : f < n) (hs : SR s) (h : rCar z n s f = .inr (s', f')) : SR s' ∧ f < f' ∧ f' ≤ n := by
  unfold rCar at h
  split at h
  · cases h
  · rename_i c4
    obtain ⟨a, ha, h⟩ := bnd_r h
    obtain ⟨b, hb, h⟩ := bnd_r h
    obtain ⟨c, hc, h⟩ := bnd_r h
    obtain ⟨a1, a2, a3, a4, a5⟩ := rNu_r ha
    obtain ⟨b1, b2, b3, b4, b5⟩ := rSn_r hb
    obtain ⟨c1, c2, c3, c4', c5⟩ := rSn_r hc
    have l1 := adT_lt (z := z) hf
    have l3 := adT_b (z := z) (n := n) (f := adT z n f) (by omega)
    have l3' := enT_b (z := z) (n := n) (f := adT z n f) (by omega)
    have l4 := snP_b (z := z) (n := n) (f := a.2) (by omega)
    have l4' := adT_b (z := z) (n := n) (f := snP z n a.2) (by omega)
    have l4'' := enT_b (z := z) (n := n) (f := snP z n a.2) (by omega)
    have l5 := snP_b (z := z) (n := n) (f := b.2) (by omega)
    have l5' := adT_b (z := z) (n := n) (f := snP z n b.2) (by omega)
    have l5'' := enT_b (z := z) (n := n) (f := snP z n b.2) (by omega)
    cases h
    obtain ⟨s1, s2, s3, s4⟩ := hs
    refine ⟨⟨s1, by show s.2.1 + 1 ≤ 4; omega, fun p hp => ?_, fun i hi => ?_⟩, by omega, by omega⟩
    · obtain ⟨u1, u2, u3, u4, u5, u6⟩ := s3 p hp
      unfold upR
      simp only
      refine ⟨?_, ?_, ?_, ?_, ?_, ?_⟩ <;> repeat' split
      all_goals omega
    · have hi' : i < s.2.1 + 1 := hi
      unfold upR
      simp only
      by_cases ci : i = s.2.1
      · refine ⟨?_, fun ax hax => ?_⟩
        · rw [if_neg (by omega), if_neg (by omega), if_pos ⟨trivial, ci⟩]
          exact ⟨a4, a5⟩
        · by_cases c1 : ax = 1
          · rw [if_pos ⟨trivial, by omega⟩]
            exact ⟨c4', c5⟩
          · rw [if_neg (by omega), if_pos ⟨trivial, by omega⟩]
            exact ⟨b4, b5⟩
      · obtain ⟨u1, u2⟩ := s4 i (by omega)
        refine ⟨?_, fun ax hax => ?_⟩
        · repeat' split
          all_goals omega
        · have := u2 ax hax
          repeat' split
          all_goals omega
theorem rPns_r : ∀ (d p : Nat) (R R' : Nat → Nat → Int) (f f' : Nat), p + d = 4 → f ≤ n → rPns z n d p R f = .inr (R', f') → f ≤ f' ∧ f' ≤ n ∧ (∀ a i, ¬ (a = 3 ∧ p ≤ i ∧ i < 4) → R' a i = R a i) ∧ ∀ i, p ≤ i → i < 4 → 0 ≤ R' 3 i ∧ R' 3 i ≤ 9
  | 0, p, R, R', f, f', hp, hf, h => by
    cases h
    exact ⟨Nat.le_refl _, hf, fun _ _ _ => rfl, fun i h1 h2 => by omega⟩
  | d + 1, p, R, R', f, f', hp, hf, h => by
    obtain ⟨a, ha, h⟩ := bnd_r h
    obtain ⟨a1, a2, a3, a4, a5⟩ := rNu_r ha
    have l3 := adT_b (z := z) (n := n) (f := f) (by omega)
    have l3' := enT_b (z := z) (n := n) (f := f) (by omega)
    obtain ⟨i1, i2, i3, i4⟩ := rPns_r d (p + 1) _ R' a.2 f' (by omega) (by omega) h
    refine ⟨by omega, i2, fun x i hx => ?_, fun i h1 h2 => ?_⟩
    · rw [i3 x i (by omega)]
      unfold upR
      rw [if_neg (by omega)]
    · by_cases c : i = p
      · subst c
        rw [i3 3 i (by omega)]
        unfold upR
        rw [if_pos ⟨rfl, rfl⟩]
        exact ⟨a4, a5⟩
      · exact i4 i (by omega) h2
theorem rLin_r {s s' : SF} {f f' : Nat} (hf : f < n) (hs : SR s) (h : rLin z n s f = .inr (s', f')) : SR s' ∧ f < f' ∧ f' ≤ n := by
  unfold rLin at h
  split at h
  · exact rPen_r hf hs h
  · split at h
    · exact rCar_r hf hs h
    · split at h
      · split at h
        · cases h
        · obtain ⟨a, ha, h⟩ := bnd_r h
          have l1 := adT_lt (z := z) hf
          obtain ⟨i1, i2, i3, i4⟩ := rPns_r 4 0 s.2.2.2 a.1 (adT z n f) a.2 (by omega) (by omega) ha
          cases h
          obtain ⟨s1, s2, s3, s4⟩ := hs
          refine ⟨⟨s1, s2, fun p hp => ?_, fun i hi => ?_⟩, by omega, by omega⟩
          · obtain ⟨u1, u2, u3, u4, u5, u6⟩ := s3 p hp
            simp only
            rw [i3 0 p (by omega), i3 1 p (by omega), i3 2 p (by omega), i3 3 (4 + p) (by omega), i3 3 (8 + p) (by omega)]
            exact ⟨u1, u2, u3, i4 p (by omega) hp, u5, u6⟩
          · obtain ⟨u1, u2⟩ := s4 i hi
            simp only
            rw [i3 4 i (by omega)]
            refine ⟨u1, fun ax hax => ?_⟩
            rw [i3 5 (2 * i + ax) (by omega)]
            exact u2 ax hax
      · cases h
theorem rSem_r {r r' : SF × Nat} (h : rSem z n r = .inr r') : sgT z n r.2 59 = true ∧ r' = (r.1, adT z n r.2) := by
  unfold rSem at h
  split at h
  · rename_i c
    cases h
    exact ⟨c, rfl⟩
  · cases h
theorem swR_r : ∀ (d : Nat) (s s' : SF) (f : Nat), f ≤ n → SR s → swR z n d s f = .inr s' → SR s'
  | 0, s, s', f, hf, hs, h => by cases h; exact hs
  | d + 1, s, s', f, hf, hs, h => by
    unfold swR at h
    split at h
    · cases h; exact hs
    · obtain ⟨r, hr, h⟩ := bnd_r h
      obtain ⟨q, hq, hr⟩ := bnd_r hr
      obtain ⟨q1, q2⟩ := rSem_r hr
      obtain ⟨x1, x2, x3⟩ := rLin_r (s' := q.1) (f' := q.2) (by omega) hs hq
      subst q2
      have := adT_b (z := z) (n := n) (f := q.2) x3
      exact swR_r d q.1 s' (adT z n q.2) this.2 x1 h
/-- faults' kinds -/
theorem nuW_b {f : Nat} {lo hi : Int} : nuW z n f lo hi ≤ 2 := by
  unfold nuW
  repeat' split
  all_goals omega
end SW
