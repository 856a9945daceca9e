section PERF
/-- what a performance doesn't change: kinds, lengths, losses, how many carts, their ticks and ways -/
abbrev WL : Type := (Nat → Int) × (Nat → Int) × (Nat → Int) × Nat × (Nat → Int) × (Nat → Nat → Int)
def aW (W : WL) (st : Nat → Int) (p t : Nat) : Int := atI (W.1 p) (W.2.1 p) (W.2.2.1 p) (st p) (st (4 + p)) (st (8 + p)) t
def pW (W : WL) (st : Nat → Int) (ax t : Nat) : Int := aW W st (2 * ax) t + aW W st (2 * ax + 1) t + shI W.2.2.2.2.1 (fun i => W.2.2.2.2.2 i ax) t W.2.2.2.1
def bx (b : Bool) : Nat := if b then 1 else 0
def cW (W : WL) (st : Nat → Int) (u : Bool) (t : Nat) : Nat := (ceI (pW W st (bx u) t) (pW W st (bx (!u)) t)).toNat
/-- a performance: step, begun, tick, turned, settings, marks, repeats -/
abbrev PS : Type := Nat × Nat × Nat × Bool × (Nat → Int) × (Nat → Nat) × (Nat → Int)
def inM (m : Nat → Nat) (c : Nat) : Nat → Nat := fun x => if x = c then m x + 1 else m x
def drM (W : WL) (st : Nat → Int) (u : Bool) : Nat → Nat → (Nat → Nat) → (Nat → Nat)
  | 0, _, m => m
  | k + 1, t, m => drM W st u k (t + 1) (inM m (cW W st u t))
def clI (x hi : Int) : Int := max 0 (min x hi)
def hoW (W : WL) (st : Nat → Int) (u : Bool) (t : Nat) (m : Nat → Nat) (test : Int) : Bool :=
  if test = 0 then decide (0 < m (cW W st u t)) else if test = 1 then decide (0 < pW W st (bx u) t) else if test = 2 then decide (0 < pW W st (bx (!u)) t) else decide (aW W st (test - 3).toNat t ≠ 0)
def upI (f : Nat → Int) (i : Nat) (v : Int) : Nat → Int := fun x => if x = i then v else f x
/-- an act (its verb is at most 6) -/
def acP (W : WL) (R : Nat → Nat → Int) (i b t : Nat) (u : Bool) (st : Nat → Int) (m : Nat → Nat) (rp : Nat → Int) : Option PS :=
  if R 0 i = 0 then (if 9999 < t + (R 1 i).toNat then none else some (i + 1, b + 1, t + (R 1 i).toNat, u, st, drM W st u (R 1 i).toNat t m, rp))
  else if R 0 i = 1 then (if 9999 < t + (R 1 i).toNat then none else some (i + 1, b + 1, t + (R 1 i).toNat, u, st, m, rp))
  else if R 0 i = 2 then some (i + 1, b + 1, t, u, upI st (R 1 i).toNat (clI (st (R 1 i).toNat + R 2 i) 9), m, rp)
  else if R 0 i = 3 then some (i + 1, b + 1, t, u, upI st (8 + (R 1 i).toNat) (clI (st (8 + (R 1 i).toNat) + R 2 i) 90), m, rp)
  else if R 0 i = 4 then some (i + 1, b + 1, t, !u, st, m, rp)
  else if R 0 i = 5 then some (if R 1 i = 0 then (R 3 i).toNat else i + 1, b + 1, t, u, st, m, upI rp i (R 1 i))
  else some (if hoW W st u t m (R 1 i) = decide (R 2 i = 0) then i + 1 else (R 3 i).toNat, b + 1, t, u, st, m, rp)
def agP (R : Nat → Nat → Int) (i b t : Nat) (u : Bool) (st : Nat → Int) (m : Nat → Nat) (rp : Nat → Int) : PS :=
  (if 0 < rp (R 1 i).toNat - 1 then (R 3 i).toNat else i + 1, b, t, u, st, m, upI rp (R 1 i).toNat (rp (R 1 i).toNat - 1))
def stP (W : WL) (R : Nat → Nat → Int) (s : PS) : Option PS := match s with
  | (i, b, t, u, st, m, rp) => if R 0 i = 7 then some (agP R i b t u st m rp) else if R 0 i = 8 then some ((R 3 i).toNat, b, t, u, st, m, rp) else if 1000 ≤ b then none else acP W R i b t u st m rp
def ruP (W : WL) (R : Nat → Nat → Int) (sz : Nat) : Nat → PS → Option PS
  | 0, s => some s
  | d + 1, s => if sz ≤ s.1 then some s else match stP W R s with
    | none => none
    | some s' => ruP W R sz d s'
def StR (st : Nat → Int) : Prop := ∀ p, p < 4 → (0 ≤ st p ∧ st p ≤ 9) ∧ (0 ≤ st (4 + p) ∧ st (4 + p) ≤ 99) ∧ (0 ≤ st (8 + p) ∧ st (8 + p) ≤ 90)
def PI (R : Nat → Nat → Int) (sz : Nat) (s : PS) : Prop := s.1 ≤ sz ∧ s.2.1 ≤ 1000 ∧ s.2.2.1 ≤ 9999 ∧ StR s.2.2.2.2.1 ∧ (∀ c, s.2.2.2.2.2.1 c ≤ s.2.2.1) ∧ ∀ o, o ∈ rpV R s.1 → 1 ≤ s.2.2.2.2.2.2 o ∧ s.2.2.2.2.2.2 o ≤ 20
theorem rpV_lt {R : Nat → Nat → Int} : ∀ i o, o ∈ rpV R i → o < i
  | 0, o, h => by cases h
  | i + 1, o, h => by
    rw [rpV_s] at h
    split at h
    · rcases List.mem_cons.mp h with e | h
      · omega
      · have := rpV_lt i o h; omega
    · split at h
      · have := rpV_lt i o (List.mem_of_mem_tail h); omega
      · have := rpV_lt i o h; omega
theorem drM_b {W : WL} {st : Nat → Int} {u : Bool} : ∀ (k t : Nat) (m : Nat → Nat), (∀ c, m c ≤ t) → ∀ c, drM W st u k t m c ≤ t + k
  | 0, t, m, h, c => h c
  | k + 1, t, m, h, c => by
    have := drM_b (W := W) (st := st) (u := u) k (t + 1) (inM m (cW W st u t)) (fun c => by
      unfold inM
      have := h c
      split <;> omega) c
    show drM W st u k (t + 1) _ c ≤ _
    omega
theorem StR_u {st : Nat → Int} {q : Nat} {v hi : Int} (h : StR st) (hq : (q < 4 ∧ hi = 9) ∨ (8 ≤ q ∧ q < 12 ∧ hi = 90)) : StR (upI st q (clI v hi)) := fun p hp => by
  have a := h p hp
  have b : 0 ≤ clI v hi ∧ clI v hi ≤ hi := by unfold clI; omega
  unfold upI
  refine ⟨?_, ?_, ?_⟩
  all_goals
    split
    · omega
    · omega
theorem eV_m {R : Nat → Nat → Int} {i : Nat} : ∀ d, eV R i ≤ eV R (i + d)
  | 0 => Nat.le_refl _
  | d + 1 => by
    have := eV_m (R := R) (i := i) d
    show _ ≤ eV R (i + d) + _
    omega
theorem eV_le {R : Nat → Nat → Int} {i k : Nat} (h : i ≤ k) : eV R i ≤ eV R k := by
  have := eV_m (R := R) (i := i) (k - i)
  rw [show i + (k - i) = k from by omega] at this
  exact this
def suR (rp : Nat → Int) : List Nat → Nat
  | [] => 0
  | o :: L => suR rp L + (rp o).toNat
theorem suR_cg {rp rp' : Nat → Int} : ∀ L : List Nat, (∀ o, o ∈ L → rp' o = rp o) → suR rp' L = suR rp L
  | [], _ => rfl
  | o :: L, h => by
    unfold suR
    rw [suR_cg L (fun x hx => h x (List.mem_cons_of_mem _ hx)), h o List.mem_cons_self]
/-- what is left to do -/
def phP (R : Nat → Nat → Int) (sz : Nat) (s : PS) : Nat := 34 * (21 * (1000 - s.2.1)) + 34 * suR s.2.2.2.2.2.2 (rpV R s.1) + (33 - eV R s.1)
theorem stP_i {W : WL} {sc : PF} {s s' : PS} (hW : WF sc) (hP : PI sc.2.1 sc.1 s) (hs : s.1 < sc.1) (h : stP W sc.2.1 s = some s') : PI sc.2.1 sc.1 s' ∧ phP sc.2.1 sc.1 s' < phP sc.2.1 sc.1 s := by
  obtain ⟨w100, wO, ⟨wn, wj, wg, _, _⟩, _, we⟩ := hW
  rw [wO] at wj
  obtain ⟨i, b, t, u, st, m, rp⟩ := s
  obtain ⟨p1, p2, p3, p4, p5, p6⟩ := hP
  generalize sc.2.1 = R at *
  simp only at p1 p2 p3 p4 p5 p6 hs
  have ni := wn i hs
  obtain ⟨⟨n0, n8⟩, n1, n2, n5, n6⟩ := ni
  have ei : ∀ k, k ≤ sc.1 → eV R k ≤ 33 := fun k hk => Nat.le_trans (eV_le hk) we
  have e1 := eV_le (R := R) (show i ≤ i + 1 by omega)
  have jmp : (R 0 i = 5 ∨ R 0 i = 6 ∨ R 0 i = 8) → (R 3 i).toNat ≤ sc.1 ∧ i < (R 3 i).toNat ∧ rpV R (R 3 i).toNat = rpV R i := fun hv => by
    obtain ⟨j, a1, a2, a3, a4⟩ := wj i hs (by simp) hv
    rw [a1, Int.toNat_natCast]
    exact ⟨a3, a2, a4⟩
  have nx : R 0 i ≠ 5 → R 0 i ≠ 7 → rpV R (i + 1) = rpV R i := fun h5 h7 => by rw [rpV_s, if_neg h5, if_neg h7]
  unfold stP at h
  simp only at h
  unfold phP
  by_cases c7 : R 0 i = 7
  · rw [if_pos c7] at h
    cases h
    obtain ⟨o, g1, g2, g3, g4, g5⟩ := wg i hs c7
    unfold agP
    rw [g1, Int.toNat_natCast, g4, Int.toNat_natCast]
    have ro := p6 o (by rw [g5]; exact List.mem_cons_self)
    have rso : ∀ x, x ∈ rpV R o → x ≠ o := fun x hx => by have := rpV_lt o x hx; omega
    have sg : suR rp (rpV R i) = suR rp (rpV R o) + (rp o).toNat := by rw [g5]; rfl
    have st' : suR (upI rp o (rp o - 1)) (rpV R o) = suR rp (rpV R o) := suR_cg _ (fun x hx => by unfold upI; rw [if_neg (rso x hx)])
    by_cases cc : 0 < rp o - 1
    · rw [if_pos cc]
      have rn : rpV R (o + 1) = o :: rpV R o := by rw [rpV_s, if_pos g3]
      refine ⟨⟨by simp only; omega, p2, p3, p4, p5, fun x hx => ?_⟩, ?_⟩
      · simp only at hx ⊢
        rw [rn] at hx
        unfold upI
        split
        · omega
        · rename_i cx
          refine p6 x ?_
          rw [g5]
          exact hx
      · simp only
        rw [rn, sg]
        show 34 * _ + 34 * (suR (upI rp o (rp o - 1)) (rpV R o) + (upI rp o (rp o - 1) o).toNat) + _ < _
        rw [st', show upI rp o (rp o - 1) o = rp o - 1 from by unfold upI; rw [if_pos rfl]]
        have := ei i (by omega)
        omega
    · rw [if_neg cc]
      have rn : rpV R (i + 1) = rpV R o := by rw [rpV_s, if_neg (by omega), if_pos c7, g5]; rfl
      refine ⟨⟨by simp only; omega, p2, p3, p4, p5, fun x hx => ?_⟩, ?_⟩
      · simp only at hx ⊢
        rw [rn] at hx
        unfold upI
        rw [if_neg (rso x hx)]
        refine p6 x ?_
        rw [g5]
        exact List.mem_cons_of_mem _ hx
      · simp only
        rw [rn, sg, st']
        have := ei i (by omega)
        omega
  · rw [if_neg c7] at h
    by_cases c8 : R 0 i = 8
    · rw [if_pos c8] at h
      cases h
      obtain ⟨j1, j2, j3⟩ := jmp (.inr (.inr c8))
      refine ⟨⟨j1, p2, p3, p4, p5, fun x hx => p6 x (by simp only at hx; rw [j3] at hx; exact hx)⟩, ?_⟩
      simp only
      rw [j3]
      have e8 : eV R (i + 1) = eV R i + 1 := by
        show eV R i + _ = _
        rw [if_pos c8]
      have := eV_le (R := R) (show i + 1 ≤ (R 3 i).toNat by omega)
      have := ei (R 3 i).toNat j1
      omega
    · rw [if_neg c8] at h
      split at h
      · cases h
      · rename_i cb
        unfold acP at h
        have easy : ∀ (t' : Nat) (u' : Bool) (st' : Nat → Int) (m' : Nat → Nat), R 0 i ≠ 5 → t' ≤ 9999 → StR st' → (∀ c, m' c ≤ t') → PI R sc.1 (i + 1, b + 1, t', u', st', m', rp) ∧ 34 * (21 * (1000 - (b + 1))) + 34 * suR rp (rpV R (i + 1)) + (33 - eV R (i + 1)) < 34 * (21 * (1000 - b)) + 34 * suR rp (rpV R i) + (33 - eV R i) := fun t' u' st' m' h5 ht hst hm => by
          refine ⟨⟨by simp only; omega, by simp only; omega, ht, hst, hm, fun x hx => p6 x (by simp only at hx; rw [nx h5 c7] at hx; exact hx)⟩, ?_⟩
          rw [nx h5 c7]
          omega
        split at h
        · rename_i c0
          split at h
          · cases h
          · rename_i ct
            cases h
            exact easy _ _ _ _ (by omega) (by omega) p4 (drM_b _ _ _ p5)
        · split at h
          · split at h
            · cases h
            · cases h
              exact easy _ _ _ _ (by omega) (by omega) p4 (fun c => by have := p5 c; omega)
          · split at h
            · rename_i c2
              cases h
              have := n2 (.inl c2)
              exact easy _ _ _ _ (by omega) p3 (StR_u p4 (.inl ⟨by omega, rfl⟩)) p5
            · split at h
              · rename_i c3
                cases h
                have := n2 (.inr c3)
                exact easy _ _ _ _ (by omega) p3 (StR_u p4 (.inr ⟨by omega, by omega, rfl⟩)) p5
              · split at h
                · cases h
                  exact easy _ _ _ _ (by omega) p3 p4 p5
                · split at h
                  · rename_i c5
                    cases h
                    have r5 := n5 c5
                    have rsi : ∀ x, x ∈ rpV R i → x ≠ i := fun x hx => by have := rpV_lt i x hx; omega
                    have st' : suR (upI rp i (R 1 i)) (rpV R i) = suR rp (rpV R i) := suR_cg _ (fun x hx => by unfold upI; rw [if_neg (rsi x hx)])
                    by_cases cz : R 1 i = 0
                    · rw [if_pos cz]
                      obtain ⟨j1, j2, j3⟩ := jmp (.inl c5)
                      refine ⟨⟨j1, by simp only; omega, p3, p4, p5, fun x hx => ?_⟩, ?_⟩
                      · simp only at hx ⊢
                        rw [j3] at hx
                        unfold upI
                        rw [if_neg (rsi x hx)]
                        exact p6 x hx
                      · simp only
                        rw [j3, st']
                        omega
                    · rw [if_neg cz]
                      have rn : rpV R (i + 1) = i :: rpV R i := by rw [rpV_s, if_pos c5]
                      refine ⟨⟨by simp only; omega, by simp only; omega, p3, p4, p5, fun x hx => ?_⟩, ?_⟩
                      · simp only at hx ⊢
                        rw [rn] at hx
                        unfold upI
                        split
                        · omega
                        · rename_i cx
                          exact p6 x ((List.mem_cons.mp hx).resolve_left cx)
                      · simp only
                        rw [rn]
                        show 34 * _ + 34 * (suR (upI rp i (R 1 i)) (rpV R i) + (upI rp i (R 1 i) i).toNat) + _ < _
                        rw [st', show upI rp i (R 1 i) i = R 1 i from by unfold upI; rw [if_pos rfl]]
                        omega
                  · rename_i c5
                    have c6 : R 0 i = 6 := by omega
                    cases h
                    split
                    · exact easy _ _ _ _ (by omega) p3 p4 p5
                    · obtain ⟨j1, j2, j3⟩ := jmp (.inr (.inl c6))
                      refine ⟨⟨j1, by simp only; omega, p3, p4, p5, fun x hx => p6 x (by simp only at hx; rw [j3] at hx; exact hx)⟩, ?_⟩
                      simp only
                      rw [j3]
                      omega
end PERF
