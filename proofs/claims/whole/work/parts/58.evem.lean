section EVEM
variable {S n : Nat}
theorem dsc_no {f m : Nat → Nat} {c i : Nat} (hf : pm S n f) (hm : pm S n m) (hd : ∀ a b, c ≤ a → a < b → b < n → f b < f a) (hc : c ≤ i) (hi : i < n) (ha : ∀ j, j < i → f j = m j) : ¬ f i < m i := by
  intro hl
  obtain ⟨x, x1, x2⟩ := hf.2.2 (m i) (hm.1 i hi).1 (hm.1 i hi).2
  rcases Nat.lt_trichotomy x i with l | l | l
  · have := hm.2.1 x i x1 hi (by rw [← ha x l]; exact x2)
    omega
  · subst l; omega
  · have := hd i x hc l x1
    omega
theorem asc_no {f m : Nat → Nat} {c i : Nat} (hf : pm S n f) (hm : pm S n m) (hd : ∀ a b, c ≤ a → a < b → b < n → f a < f b) (hc : c ≤ i) (hi : i < n) (ha : ∀ j, j < i → f j = m j) : ¬ m i < f i := by
  intro hl
  obtain ⟨x, x1, x2⟩ := hf.2.2 (m i) (hm.1 i hi).1 (hm.1 i hi).2
  rcases Nat.lt_trichotomy x i with l | l | l
  · have := hm.2.1 x i x1 hi (by rw [← ha x l]; exact x2)
    omega
  · subst l; omega
  · have := hd i x hc l x1
    omega
theorem dsc_all {f : Nat → Nat} {c : Nat} (hd : ∀ i, c ≤ i → i + 1 < n → f (i + 1) < f i) : ∀ e a, c ≤ a → a + e + 1 < n → f (a + e + 1) < f a
  | 0, a, ha, hn => hd a ha hn
  | e + 1, a, ha, hn => by
    have h1 := dsc_all hd e a ha (by omega)
    have h2 := hd (a + e + 1) (by omega) (by omega)
    have : a + (e + 1) + 1 = a + e + 1 + 1 := by omega
    rw [this]
    omega
theorem dsc_pair {f : Nat → Nat} {c : Nat} (hd : ∀ i, c ≤ i → i + 1 < n → f (i + 1) < f i) : ∀ a b, c ≤ a → a < b → b < n → f b < f a := fun a b h1 h2 h3 => by
  have := dsc_all hd (b - a - 1) a h1 (by omega)
  rw [show a + (b - a - 1) + 1 = b from by omega] at this
  exact this
/-- the next order -/
def nxQ (f : Nat → Nat) (k j i : Nat) : Nat := if i = k then f j else if i = j then f k else f i
def nxP (n : Nat) (f : Nat → Nat) (k j i : Nat) : Nat := if i ≤ k then nxQ f k j i else nxQ f k j (n + k - i)
def NP (n : Nat) (f : Nat → Nat) (k j : Nat) : Prop := f k < f j ∧ (∀ a b, k + 1 ≤ a → a < b → b < n → f b < f a) ∧ k < j ∧ j < n ∧ ∀ i, j < i → i < n → f i < f k
theorem nx_pm {f : Nat → Nat} {k j : Nat} (hf : pm S n f) (h : NP n f k j) : pm S n (nxP n f k j) := by
  obtain ⟨h1, h2, h3, h4, h5⟩ := h
  have sg : ∀ i, i < n → ∃ s, s < n ∧ nxP n f k j i = f s ∧ (i < k → s = i) ∧ (i = k → s = j) ∧ (k < i → (n + k - i = j → s = k) ∧ (n + k - i ≠ j → s = n + k - i)) := fun i hi => by
    unfold nxP nxQ
    by_cases c1 : i ≤ k
    · rw [if_pos c1]
      by_cases c2 : i = k
      · rw [if_pos c2]; exact ⟨j, h4, rfl, by omega, by omega, by omega⟩
      · rw [if_neg c2, if_neg (by omega)]; exact ⟨i, hi, rfl, by omega, by omega, by omega⟩
    · rw [if_neg c1]
      by_cases c2 : n + k - i = j
      · rw [if_neg (by omega), if_pos c2]; exact ⟨k, by omega, rfl, by omega, by omega, by omega⟩
      · rw [if_neg (by omega), if_neg c2]; exact ⟨n + k - i, by omega, rfl, by omega, by omega, by omega⟩
  refine ⟨fun i hi => ?_, fun i i' hi hi' e => ?_, fun x hx hb => ?_⟩
  · obtain ⟨s, s1, s2, _⟩ := sg i hi
    rw [s2]; exact hf.1 s s1
  · obtain ⟨s, s1, s2, s3, s4, s5⟩ := sg i hi
    obtain ⟨t, t1, t2, t3, t4, t5⟩ := sg i' hi'
    rw [s2, t2] at e
    have := hf.2.1 s t s1 t1 e
    omega
  · obtain ⟨y, y1, y2⟩ := hf.2.2 x hx hb
    have go : ∀ i, i < n → (∀ s, (i < k → s = i) ∧ (i = k → s = j) ∧ (k < i → (n + k - i = j → s = k) ∧ (n + k - i ≠ j → s = n + k - i)) → s = y) → ∃ i, i < n ∧ nxP n f k j i = x := fun i hi hs => by
      obtain ⟨s, s1, s2, s3⟩ := sg i hi
      refine ⟨i, hi, ?_⟩
      rw [s2, hs s s3, y2]
    by_cases c1 : y < k
    · exact go y y1 (fun s hs => hs.1 c1)
    · by_cases c2 : y = j
      · exact go k (by omega) (fun s hs => by have := hs.2.1 rfl; omega)
      · by_cases c3 : y = k
        · exact go (n + k - j) (by omega) (fun s hs => by have := (hs.2.2 (by omega)).1 (by omega); omega)
        · exact go (n + k - y) (by omega) (fun s hs => by have := (hs.2.2 (by omega)).2 (by omega); omega)
theorem nx_asc {f : Nat → Nat} {k j : Nat} (h : NP n f k j) : ∀ a b, k + 1 ≤ a → a < b → b < n → nxP n f k j a < nxP n f k j b := by
  obtain ⟨h1, h2, h3, h4, h5⟩ := h
  intro a b ha hab hb
  unfold nxP nxQ
  rw [if_neg (show ¬ a ≤ k by omega), if_neg (show ¬ b ≤ k by omega), if_neg (show ¬ n + k - a = k by omega), if_neg (show ¬ n + k - b = k by omega)]
  by_cases c1 : n + k - a = j
  · rw [if_pos c1, if_neg (show ¬ n + k - b = j by omega)]
    have := h2 (n + k - b) j (by omega) (by omega) h4
    omega
  · rw [if_neg c1]
    by_cases c2 : n + k - b = j
    · rw [if_pos c2]
      exact h5 _ (by omega) (by omega)
    · rw [if_neg c2]
      exact h2 (n + k - b) (n + k - a) (by omega) (by omega) (by omega)
theorem nx_low {f : Nat → Nat} {k j i : Nat} (h : NP n f k j) (hi : i < k) : nxP n f k j i = f i := by
  obtain ⟨h1, h2, h3, h4, h5⟩ := h
  unfold nxP nxQ
  rw [if_pos (by omega), if_neg (by omega), if_neg (by omega)]
theorem nx_k {f : Nat → Nat} {k j : Nat} : nxP n f k j k = f j := by
  unfold nxP nxQ
  rw [if_pos (Nat.le_refl _), if_pos rfl]
theorem nx_lt {f : Nat → Nat} {k j : Nat} (h : NP n f k j) : llt n f (nxP n f k j) := by
  refine ⟨k, by have := h.2.2.1; have := h.2.2.2.1; omega, ?_, fun i hi => (nx_low h hi).symm⟩
  rw [nx_k]; exact h.1
theorem nx_next {f m : Nat → Nat} {k j : Nat} (hf : pm S n f) (h : NP n f k j) (hm : pm S n m) (hl : llt n f m) : (∀ i, i < n → nxP n f k j i = m i) ∨ llt n (nxP n f k j) m := by
  obtain ⟨h1, h2, h3, h4, h5⟩ := id h
  obtain ⟨i, i1, i2, i3⟩ := hl
  rcases Nat.lt_trichotomy i k with l | l | l
  · exact .inr ⟨i, i1, by rw [nx_low h l]; exact i2, fun x hx => by rw [nx_low h (by omega)]; exact i3 x hx⟩
  · subst l
    obtain ⟨x, x1, x2⟩ := hf.2.2 (m i) (hm.1 i i1).1 (hm.1 i i1).2
    have xi : i < x := by
      rcases Nat.lt_trichotomy x i with l | l | l
      · have := hm.2.1 x i x1 i1 (by rw [← i3 x l]; exact x2)
        omega
      · subst l; omega
      · exact l
    have hge : f j ≤ m i := by
      rcases Nat.lt_trichotomy x j with l | l | l
      · have := h2 x j (by omega) l h4; omega
      · subst l; omega
      · have := h5 x l x1; omega
    by_cases c : f j < m i
    · exact .inr ⟨i, i1, by rw [nx_k]; exact c, fun x hx => by rw [nx_low h (by omega)]; exact i3 x hx⟩
    · rcases llt_cmp (nxP n f i j) m n with z | z | ⟨y, y1, y2, y3⟩
      · exact .inl z
      · exact .inr z
      · exfalso
        have hyi : i + 1 ≤ y := by
          refine Classical.byContradiction (fun w => ?_)
          by_cases c2 : y = i
          · subst c2; rw [nx_k] at y2; omega
          · rw [nx_low h (by omega), i3 y (by omega)] at y2; omega
        exact asc_no (nx_pm hf h) hm (nx_asc h) hyi y1 (fun j hj => (y3 j hj).symm) y2
  · exact absurd i2 (dsc_no hf hm h2 (by omega) i1 i3)
theorem nx_end {f m : Nat → Nat} (hf : pm S n f) (hd : ∀ i, i + 1 < n → f (i + 1) < f i) (hm : pm S n m) : ¬ llt n f m := fun ⟨i, i1, i2, i3⟩ => dsc_no hf hm (dsc_pair (c := 0) (fun i _ hi => hd i hi)) (Nat.zero_le _) i1 i3 i2
/-- an order as a number -/
def cdN (f : Nat → Nat) : Nat → Nat
  | 0 => 0
  | k + 1 => 8 * cdN f k + f k
theorem cdN_b {f : Nat → Nat} : ∀ k, (∀ i, i < k → f i < 8) → cdN f k < 8 ^ k
  | 0, _ => by show 0 < 1; omega
  | k + 1, h => by
    have := cdN_b k (fun i hi => h i (by omega))
    have := h k (by omega)
    unfold cdN
    rw [Nat.pow_succ]
    omega
theorem cdN_cg {f g : Nat → Nat} : ∀ k, (∀ i, i < k → f i = g i) → cdN f k = cdN g k
  | 0, _ => rfl
  | k + 1, h => by
    unfold cdN
    rw [cdN_cg k (fun i hi => h i (by omega)), h k (by omega)]
theorem cdN_lt {f g : Nat → Nat} {i : Nat} (hf : ∀ i, f i < 8 ∨ n ≤ i) (h : f i < g i) (ha : ∀ j, j < i → f j = g j) : ∀ e, i + e < n → cdN f (i + e + 1) < cdN g (i + e + 1)
  | 0, _ => by
    unfold cdN
    rw [cdN_cg i ha]
    omega
  | e + 1, hn => by
    have := cdN_lt hf h ha e (by omega)
    have h8 := hf (i + (e + 1))
    show 8 * cdN f (i + e + 1) + f (i + (e + 1)) < 8 * cdN g (i + e + 1) + g (i + (e + 1))
    omega
theorem cdN_llt {f g : Nat → Nat} (hf : ∀ i, i < n → f i < 8) (h : llt n f g) : cdN f n < cdN g n := by
  obtain ⟨i, i1, i2, i3⟩ := h
  have := cdN_lt (n := n) (fun i => by by_cases c : i < n; exact .inl (hf i c); exact .inr (by omega)) i2 i3 (n - 1 - i) (by omega)
  rw [show i + (n - 1 - i) + 1 = n from by omega] at this
  exact this
/-- the first best of some orders and teas -/
def fsP (D : Nat → Nat → Nat) (S n : Nat) (P : (Nat → Nat) → Nat → Prop) (v : Nat) (e : Nat → Nat) (t : Nat) : Prop := pm S n e ∧ t < n ∧ P e t ∧ v = Cp D e t n ∧ ∀ m b, pm S n m → b < n → P m b → v < Cp D m b n ∨ (v = Cp D m b n ∧ (llt n e m ∨ ((∀ i, i < n → e i = m i) ∧ t ≤ b)))
def ahd (n : Nat) (f : Nat → Nat) (b : Nat) (m : Nat → Nat) (b' : Nat) : Prop := llt n m f ∨ ((∀ i, i < n → m i = f i) ∧ b' < b)
variable {D : Nat → Nat → Nat}
theorem fsP_new {f : Nat → Nat} {b : Nat} (hf : pm S n f) (hb : b < n) (hlo : ∀ m b', pm S n m → b' < n → ahd n f b m b' → Cp D f b n < Cp D m b' n) : fsP D S n (ahd n f (b + 1)) (Cp D f b n) f b := by
  refine ⟨hf, hb, .inr ⟨fun _ _ => rfl, by omega⟩, rfl, fun m b' hm hb' hp => ?_⟩
  rcases hp with hp | ⟨hp, hp2⟩
  · exact .inl (hlo m b' hm hb' (.inl hp))
  · by_cases c : b' = b
    · subst c
      exact .inr ⟨(Cp_cg b' n hp).symm, .inr ⟨fun i hi => (hp i hi).symm, Nat.le_refl _⟩⟩
    · exact .inl (hlo m b' hm hb' (.inr ⟨hp, by omega⟩))
theorem fsP_old {f e : Nat → Nat} {b v t : Nat} (h : fsP D S n (ahd n f b) v e t) (hv : v ≤ Cp D f b n) : fsP D S n (ahd n f (b + 1)) v e t := by
  obtain ⟨h1, h2, h3, h4, h5⟩ := h
  refine ⟨h1, h2, h3.imp id (fun z => ⟨z.1, by omega⟩), h4, fun m b' hm hb' hp => ?_⟩
  by_cases c : (∀ i, i < n → m i = f i) ∧ b' = b
  · obtain ⟨c1, c2⟩ := c
    subst c2
    rw [Cp_cg b' n c1]
    by_cases c3 : v < Cp D f b' n
    · exact .inl c3
    · refine .inr ⟨by omega, ?_⟩
      rcases h3 with h3 | ⟨h3, h3'⟩
      · exact .inl (llt_cg (fun _ _ => rfl) c1 h3)
      · exact .inr ⟨fun i hi => (h3 i hi).trans (c1 i hi).symm, by omega⟩
  · refine h5 m b' hm hb' ?_
    rcases hp with hp | ⟨hp, hp2⟩
    · exact .inl hp
    · exact .inr ⟨hp, by
        refine Classical.byContradiction (fun w => c ⟨hp, by omega⟩)⟩
theorem fsP_nx {f f' e : Nat → Nat} {v t : Nat} (hf' : llt n f f') (hnx : ∀ m, pm S n m → llt n f m → (∀ i, i < n → f' i = m i) ∨ llt n f' m) (h : fsP D S n (ahd n f n) v e t) : fsP D S n (ahd n f' 0) v e t := by
  obtain ⟨h1, h2, h3, h4, h5⟩ := h
  refine ⟨h1, h2, ?_, h4, fun m b' hm hb' hp => h5 m b' hm hb' ?_⟩
  · rcases h3 with h3 | ⟨h3, _⟩
    · exact .inl (llt_tr h3 hf')
    · exact .inl (llt_cg h3 (fun _ _ => rfl) hf')
  · rcases hp with hp | ⟨_, hp⟩
    · rcases llt_cmp m f n with z | z | z
      · exact .inr ⟨z, hb'⟩
      · exact .inl z
      · rcases hnx m hm z with w | w
        · exact absurd (llt_ne hp (fun i hi => (w i hi).symm)) id
        · exact absurd (llt_as hp w) id
    · omega
theorem fsP_end {f e : Nat → Nat} {v t : Nat} (hend : ∀ m, pm S n m → ¬ llt n f m) (h : fsP D S n (ahd n f n) v e t) : fsb D S n v e t := by
  obtain ⟨h1, h2, h3, h4, h5⟩ := h
  refine ⟨h1, h2, h4, fun m b hm hb => h5 m b hm hb ?_⟩
  rcases llt_cmp m f n with z | z | z
  · exact .inr ⟨z, hb⟩
  · exact .inl z
  · exact absurd z (hend m hm)
end EVEM
