section SC
/-- a score being read: how many steps; rows: verbs, numbers, changes, jumps; the steps of blocks not yet ended, the last first -/
abbrev PF : Type := Nat × (Nat → Nat → Int) × List Nat
def adS (s : PF) (v : Int) : PF := (s.1 + 1, upR (upR (upR (upR s.2.1 0 s.1 v) 1 s.1 0) 2 s.1 0) 3 s.1 0, s.2.2)
def vbT (z : Nat → Int) (n f : Nat) : Option Nat := if wdS z n f "draw" then some 0 else if wdS z n f "lift" then some 1 else if wdS z n f "penny" then some 2 else if wdS z n f "size" then some 3 else if wdS z n f "turn" then some 4 else if wdS z n f "repeat" then some 5 else if wdS z n f "when" then some 6 else none
def tsT (z : Nat → Int) (n f : Nat) : Option Nat := if wdS z n f "marked" then some 0 else if wdS z n f "right" then some 1 else if wdS z n f "above" then some 2 else if wdS z n f "loud" then some 3 else none
def rOpn (z : Nat → Int) (n : Nat) (s : PF) (f : Nat) : (Nat × Nat) ⊕ (PF × Nat) := if sgT z n f 40 then .inr ((s.1, s.2.1, (s.1 - 1) :: s.2.2), adT z n f) else .inl (1, f)
def rNm (z : Nat → Int) (n : Nat) (s : PF) (f : Nat) (lo hi : Int) : (Nat × Nat) ⊕ (PF × Nat) := bnd (rNu z n f lo hi) fun a => .inr ((s.1, upR s.2.1 1 (s.1 - 1) a.1, s.2.2), a.2)
def rChg (z : Nat → Int) (n : Nat) (s : PF) (f : Nat) (m : Int) : (Nat × Nat) ⊕ (PF × Nat) := bnd (rNm z n s f 0 3) fun r => bnd (rSn z n r.2 m) fun b => .inr ((r.1.1, upR r.1.2.1 2 (r.1.1 - 1) b.1, r.1.2.2), b.2)
def rNot (z : Nat → Int) (n : Nat) : Nat → Nat → Nat → Nat × Nat
  | 0, k, f => (k, f)
  | d + 1, k, f => if wdS z n f "not" then rNot z n d (k + 1) (adT z n f) else (k, f)
def rTe2 (z : Nat → Int) (n : Nat) (s : PF) (q : Nat × Nat) : (Nat × Nat) ⊕ (PF × Nat) :=
  if wdS z n q.2 "not" then .inl (2, q.2) else match tsT z n q.2 with
    | none => .inl (1, q.2)
    | some t => if t = 3 then bnd (rNu z n (adT z n q.2) 0 3) fun a => .inr ((s.1, upR (upR s.2.1 2 (s.1 - 1) ((q.1 % 2 : Nat) : Int)) 1 (s.1 - 1) (a.1 + 3), s.2.2), a.2)
      else .inr ((s.1, upR (upR s.2.1 2 (s.1 - 1) ((q.1 % 2 : Nat) : Int)) 1 (s.1 - 1) (t : Int), s.2.2), adT z n q.2)
def rTst (z : Nat → Int) (n : Nat) (s : PF) (f : Nat) : (Nat × Nat) ⊕ (PF × Nat) := rTe2 z n s (rNot z n 4 0 f)
def rAc2 (z : Nat → Int) (n : Nat) (v : Nat) (s : PF) (f : Nat) : (Nat × Nat) ⊕ (PF × Nat) :=
  if v ≤ 1 then rNm z n s f 1 200 else if v = 2 then rChg z n s f 9 else if v = 3 then rChg z n s f 90 else if v = 4 then .inr (s, f)
    else if v = 5 then bnd (rNm z n s f 0 20) (fun r => rOpn z n r.1 r.2) else bnd (rTst z n s f) (fun r => rOpn z n r.1 r.2)
def rAct (z : Nat → Int) (n : Nat) (s : PF) (f : Nat) : (Nat × Nat) ⊕ (PF × Nat) := match vbT z n f with
  | none => .inl (1, f)
  | some v => if 5 ≤ v ∧ 5 ≤ s.2.2.length then .inl (2, f) else rAc2 z n v (adS s v) (adT z n f)
def rClo (z : Nat → Int) (n : Nat) (s : PF) (o : Nat) (O : List Nat) (f : Nat) : (Nat × Nat) ⊕ (PF × Nat) :=
  if s.2.1 0 o = 5 then .inr ((s.1 + 1, upR (upR (upR (adS s 7).2.1 3 s.1 (o + 1 : Nat)) 1 s.1 (o : Nat)) 3 o (s.1 + 1 : Nat), O), adT z n f)
  else if s.2.1 0 o = 6 ∧ wdS z n (adT z n f) "else" = true then rOpn z n (s.1 + 1, upR (adS s 8).2.1 3 o (s.1 + 1 : Nat), O) (adT z n (adT z n f))
  else .inr ((s.1, upR s.2.1 3 o (s.1 : Nat), O), adT z n f)
def rPie (z : Nat → Int) (n : Nat) (s : PF) (f : Nat) : (Nat × Nat) ⊕ (PF × Nat) := match s.2.2 with
  | [] => rAct z n s f
  | o :: O => if sgT z n f 41 then rClo z n s o O f else rAct z n s f
def scR (z : Nat → Int) (n : Nat) : Nat → PF → Nat → (Nat × Nat) ⊕ PF
  | 0, s, _ => .inr s
  | d + 1, s, f => if n ≤ f then (if s.2.2 = [] then .inr s else .inl (1, f)) else bnd (rPie z n s f) fun r => scR z n d r.1 r.2
/-- how many blocks not yet ended are repeated ones -/
def rpO (R : Nat → Nat → Int) : List Nat → Nat
  | [] => 0
  | o :: O => rpO R O + (if R 0 o = 5 then 1 else 0)
def SI (s : PF) (f : Nat) : Prop := 4 * (s.1 + rpO s.2.1 s.2.2) ≤ f ∧ s.2.2.length ≤ 5 ∧ ∀ o, o ∈ s.2.2 → o < s.1
variable {z : Nat → Int} {n : Nat}
theorem rpO_cg {R R' : Nat → Nat → Int} : ∀ (O : List Nat), (∀ o, o ∈ O → R' 0 o = R 0 o) → rpO R' O = rpO R O
  | [], _ => rfl
  | o :: O, h => by
    unfold rpO
    rw [rpO_cg O (fun x hx => h x (List.mem_cons_of_mem _ hx)), h o List.mem_cons_self]
theorem upR_0 {R : Nat → Nat → Int} {a i o : Nat} {v : Int} (ha : a ≠ 0) : upR R a i v 0 o = R 0 o := by
  unfold upR
  rw [if_neg (fun e => ha e.1.symm)]
theorem adS_0 {s : PF} {v : Int} {o : Nat} (ho : o < s.1) : (adS s v).2.1 0 o = s.2.1 0 o := by
  unfold adS
  simp only
  rw [upR_0 (by omega), upR_0 (by omega), upR_0 (by omega)]
  unfold upR
  rw [if_neg (by omega)]
theorem adS_n {s : PF} {v : Int} : (adS s v).2.1 0 s.1 = v := by
  unfold adS
  simp only
  rw [upR_0 (by omega), upR_0 (by omega), upR_0 (by omega)]
  unfold upR
  rw [if_pos ⟨rfl, rfl⟩]
theorem wdS_ad {f : Nat} {w : String} (hw : wdS z n f w = true) : f + w.length ≤ adT z n f ∧ adT z n f ≤ n := by
  obtain ⟨a, b, c⟩ := wdS_f hw
  have e := enT_b (z := z) (n := n) (f := f) (by omega)
  have d := adT_b (z := z) (n := n) (f := f) (by omega)
  omega
theorem vbT_b {f v : Nat} (h : vbT z n f = some v) : v ≤ 6 ∧ f < n ∧ f + (if v = 5 then 6 else 4) ≤ adT z n f ∧ adT z n f ≤ n := by
  have lens : "draw".length = 4 ∧ "lift".length = 4 ∧ "penny".length = 5 ∧ "size".length = 4 ∧ "turn".length = 4 ∧ "repeat".length = 6 ∧ "when".length = 4 := by decide
  unfold vbT at h
  repeat' split at h
  all_goals first
    | (cases h
       done)
    | (rename_i c
       have a := wdS_ad c
       have b := (wdS_f c).1
       simp only [lens] at a
       cases h
       refine ⟨by omega, b, ?_, a.2⟩
       split <;> omega)
theorem tsT_b {f v : Nat} (h : tsT z n f = some v) : v ≤ 3 ∧ f < n := by
  unfold tsT at h
  repeat' split at h
  all_goals first
    | (cases h
       rename_i c
       have b := (wdS_f c).1
       omega)
    | cases h
theorem rNot_b : ∀ (d k f : Nat), f ≤ n → f ≤ (rNot z n d k f).2 ∧ (rNot z n d k f).2 ≤ n ∧ (rNot z n d k f).1 ≤ k + d
  | 0, k, f, hf => ⟨Nat.le_refl _, hf, Nat.le_refl _⟩
  | d + 1, k, f, hf => by
    unfold rNot
    split
    · rename_i c
      have a := wdS_ad c
      have := rNot_b d (k + 1) (adT z n f) a.2
      omega
    · exact ⟨Nat.le_refl _, hf, by omega⟩
/-- what a piece keeps: verbs, blocks not yet ended; it goes on -/
theorem rOpn_r {s : PF} {f : Nat} {r : PF × Nat} (h : rOpn z n s f = .inr r) : r.1 = (s.1, s.2.1, (s.1 - 1) :: s.2.2) ∧ f < r.2 ∧ r.2 ≤ n ∧ r.2 = adT z n f ∧ sgT z n f 40 = true := by
  unfold rOpn at h
  split at h
  · rename_i c
    cases h
    have a := sgT_f c
    have b := adT_lt (z := z) a
    exact ⟨rfl, b.1, b.2, rfl, c⟩
  · cases h
theorem rNm_r {s : PF} {f : Nat} {lo hi : Int} {r : PF × Nat} (hf : f ≤ n) (h : rNm z n s f lo hi = .inr r) : ∃ v, r.1 = (s.1, upR s.2.1 1 (s.1 - 1) v, s.2.2) ∧ lo ≤ v ∧ v ≤ hi ∧ f < r.2 ∧ r.2 ≤ n := by
  unfold rNm at h
  obtain ⟨a, ha, h⟩ := bnd_r h
  cases h
  obtain ⟨a1, a2, a3, a4, a5⟩ := rNu_r ha
  have b := adT_lt (z := z) (nuW_f hf a1)
  exact ⟨a.1, rfl, a4, a5, by omega, by omega⟩
theorem rChg_r {s : PF} {f : Nat} {m : Int} {r : PF × Nat} (hf : f ≤ n) (h : rChg z n s f m = .inr r) : ∃ v w, r.1 = (s.1, upR (upR s.2.1 1 (s.1 - 1) v) 2 (s.1 - 1) w, s.2.2) ∧ 0 ≤ v ∧ v ≤ 3 ∧ -m ≤ w ∧ w ≤ m ∧ f < r.2 ∧ r.2 ≤ n := by
  unfold rChg at h
  obtain ⟨a, ha, h⟩ := bnd_r h
  obtain ⟨v, ea, v1, v2, v3, v4⟩ := rNm_r hf ha
  obtain ⟨b, hb, h⟩ := bnd_r h
  obtain ⟨b1, b2, b3, b4, b5⟩ := rSn_r hb
  have sb := snP_b (z := z) v4
  have c := adT_lt (z := z) (nuW_f sb.2 b1)
  cases h
  refine ⟨v, b.1, ?_, v1, v2, b4, b5, by simp only; omega, by simp only; omega⟩
  rw [ea]
theorem rTst_r {s : PF} {f : Nat} {r : PF × Nat} (hf : f ≤ n) (h : rTst z n s f = .inr r) : ∃ v w, r.1 = (s.1, upR (upR s.2.1 2 (s.1 - 1) w) 1 (s.1 - 1) v, s.2.2) ∧ 0 ≤ v ∧ v ≤ 6 ∧ 0 ≤ w ∧ w ≤ 1 ∧ f < r.2 ∧ r.2 ≤ n := by
  unfold rTst rTe2 at h
  have nb := rNot_b (z := z) (n := n) 4 0 f hf
  split at h
  · cases h
  · split at h
    · cases h
    · rename_i t ht
      have tb := tsT_b ht
      have ab := adT_lt (z := z) tb.2
      split at h
      · obtain ⟨a, ha, h⟩ := bnd_r h
        obtain ⟨a1, a2, a3, a4, a5⟩ := rNu_r ha
        have b := adT_lt (z := z) (nuW_f ab.2 a1)
        cases h
        exact ⟨a.1 + 3, _, rfl, by omega, by omega, by omega, by omega, by simp only; omega, by simp only; omega⟩
      · cases h
        exact ⟨t, _, rfl, by omega, by omega, by omega, by omega, by simp only; omega, by simp only; omega⟩
end SC
