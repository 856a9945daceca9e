section AUX
variable {G : GX} {j : MX} {pc : Nat} {ls : mL} {st : List Value} {h : mH} {Q : mO → mH → Prop}
def mask : List Bool → mL → mL
  | b :: bs, v :: vs => (if b then v else none) :: mask bs vs
  | _, vs => vs
theorem mask_sub : ∀ (bs : List Bool) (ls : mL) (i : Nat) (v : Value), (mask bs ls)[i]? = some (some v) → ls[i]? = some (some v)
  | [], ls, i, v, h => by unfold mask at h; exact h
  | b :: bs, [], i, v, h => by unfold mask at h; exact h
  | b :: bs, x :: vs, 0, v, h => by
    unfold mask at h
    cases b
    · simp at h
    · simpa using h
  | b :: bs, x :: vs, i + 1, v, h => by
    unfold mask at h
    rw [List.getElem?_cons_succ] at h ⊢
    exact mask_sub bs vs i v h
theorem Vw.mask (bs : List Bool) (k : Vw G j pc (mask bs ls) st h Q) : Vw G j pc ls st h Q := k.drop (mask_sub bs ls)
theorem i32_ne {x c : Int32} {k : Int} (h : ¬ x = c) (hc : c.toInt = k) : ¬ x.toInt = k := fun e => h (Int32.toInt_inj.mp (e.trans hc.symm))
theorem sw_out {x : Int32} {lo hi : Int} (L : List Int32) (h : ∀ v ∈ L, ¬ x = v) (hL : ∀ k : Int, lo ≤ k → k ≤ hi → Int32.ofInt k ∈ L) : x.toInt < lo ∨ hi < x.toInt := by
  rcases Int.lt_or_le x.toInt lo with q | q
  · exact Or.inl q
  · rcases Int.lt_or_le hi x.toInt with r | r
    · exact Or.inr r
    · exact absurd (by rw [Int32.ofInt_toInt]) (h _ (hL _ q r))
theorem lk_out {ps : List (Int × Int)} {d x : Int} (h : ∀ q ∈ ps, ¬ x = q.1) : Op.lookupswitch.offset ps d x = d := by
  induction ps with
  | nil => rfl
  | cons a l ih =>
    obtain ⟨a, b⟩ := a
    have h1 := h (a, b) List.mem_cons_self
    rw [Op.lookupswitch.offset_cons, if_neg (fun e => h1 e.symm)]
    exact ih (fun q hq => h q (List.mem_cons_of_mem _ hq))
theorem s_ldcS {i n : Nat} {text : String} (hd : decode (jC j) pc = .ok (.ldc i, 2)) (hn : sTab[n]? = some ((jY j).cls, i, text)) (hb : (UInt32.ofNat n).toNat = n) (k : Vw G j (pc + 2) ls (.float (UInt32.ofNat n) :: st) h Q) : Vw G j pc ls st h Q := by
  refine Vw.same (fun p e s m args below meth c h0 H locs la Q cells slots F hl k => ?_) k
  intro T hT X
  obtain ⟨t, a, b⟩ := k T hT X
  have hv := vk_R.same (U := s) rfl (F.2.2.2.2.2.2.2.1.2.2.2.2.1 n _ hn)
  have hr : rv G (.float (UInt32.ofNat n)) = .ref (gO G n) := by show Value.ref (gO G (UInt32.ofNat n).toNat) = _; rw [hb]
  rw [List.map_cons, hr] at a
  refine ⟨t, ?_, b⟩
  have hc1 : (Cond.stringRef (jY j).cls i text).before args s = true := hv.1
  exact X.ldcString F.1 F.2.2.2.2.2.1 hv.1 hv.2 (g := F0 m pc la (st.map (rv G))) rfl (by rw [F.2.1]; exact hd) t a
theorem Iv.dyn {h : mH} (hi : Iv h) {k : Nat} (hk : rOff 9 k = none) (v : Value) : Iv (pR h 0 k v) := by
  refine ⟨hi.1, fun o c n k' d ho hd => ?_⟩
  have h1 := hi.2 o c n k' d ho hd
  show (pR h 0 k v).2.2.2 o k' = _
  by_cases e : o = 0
  · subst e
    have hc : c = 9 := by
      have : kd 0 = (9, 17) := rfl
      rw [this] at ho
      cases ho
      rfl
    subst hc
    have : k' ≠ k := fun e => by rw [e, hk] at hd; cases hd
    rw [← h1]
    simp [pR, updV, this]
  · rw [← h1]
    simp [pR, e]
theorem Iv.dy7 {h : mH} {v : Value} (hi : Iv h) : Iv (pR h 0 7 v) := hi.dyn rfl v
theorem Iv.dy8 {h : mH} {v : Value} (hi : Iv h) : Iv (pR h 0 8 v) := hi.dyn rfl v
theorem gI_pA (h : mH) (o o' k : Nat) (f : Nat → Int32) : gI (pA h o f) o' k = if o' = o then f k else gI h o' k := by
  unfold gI pA
  by_cases e : o' = o <;> simp [e]
theorem gI_pI (h : mH) (o k o' k' : Nat) (v : Int32) : gI (pI h o k v) o' k' = if o' = o ∧ k' = k then v else gI h o' k' := by
  unfold pI
  rw [gI_pA]
  by_cases e : o' = o <;> by_cases e2 : k' = k <;> simp [e, e2, upd, gI]
theorem gI_pJ (h : mH) (o k o' k' : Nat) (v : Int64) : gI (pJ h o k v) o' k' = gI h o' k' := rfl
theorem gI_pR (h : mH) (o k o' k' : Nat) (v : Value) : gI (pR h o k v) o' k' = gI h o' k' := rfl
theorem gJ_pA (h : mH) (o o' k : Nat) (f : Nat → Int32) : gJ (pA h o f) o' k = gJ h o' k := rfl
theorem gJ_pI (h : mH) (o k o' k' : Nat) (v : Int32) : gJ (pI h o k v) o' k' = gJ h o' k' := rfl
theorem gJ_pJ (h : mH) (o k o' k' : Nat) (v : Int64) : gJ (pJ h o k v) o' k' = if o' = o ∧ k' = k then v else gJ h o' k' := by
  unfold gJ pJ
  by_cases e : o' = o <;> by_cases e2 : k' = k <;> simp [e, e2, vp_updL]
theorem gR_pA (h : mH) (o o' k : Nat) (f : Nat → Int32) : gR (pA h o f) o' k = gR h o' k := rfl
theorem gR_pI (h : mH) (o k o' k' : Nat) (v : Int32) : gR (pI h o k v) o' k' = gR h o' k' := rfl
theorem gR_pR (h : mH) (o k o' k' : Nat) (v : Value) : gR (pR h o k v) o' k' = if o' = o ∧ k' = k then v else gR h o' k' := by
  unfold gR pR
  by_cases e : o' = o <;> by_cases e2 : k' = k <;> simp [e, e2, updV]
set_option maxRecDepth 100000 in
theorem kat_346 : ∀ w ∈ (mzAtoms RX10 346 "java/util/NoSuchElementException" 13 prog_29_method_4_code exNames).filter vx_no, w ∈ lw_tbl ∧ mvb w = true := by decide +kernel
set_option maxRecDepth 100000 in
theorem kao_346 : ∀ w ∈ Cond.classLink RX10 342 "java/util/NoSuchElementException" :: Cond.initialized "java/util/NoSuchElementException" :: (mzAtoms RX10 346 "java/util/NoSuchElementException" 13 prog_29_method_4_code exNames).filter vx_no, vx_ot w = true := by decide +kernel
set_option maxRecDepth 100000 in
theorem kat_376 : ∀ w ∈ (mzAtoms RX10 376 "java/lang/IllegalArgumentException" 7 prog_18_method_2_code exNames).filter vx_no, w ∈ lw_tbl ∧ mvb w = true := by decide +kernel
set_option maxRecDepth 100000 in
theorem kao_376 : ∀ w ∈ Cond.classLink RX10 372 "java/lang/IllegalArgumentException" :: Cond.initialized "java/lang/IllegalArgumentException" :: (mzAtoms RX10 376 "java/lang/IllegalArgumentException" 7 prog_18_method_2_code exNames).filter vx_no, vx_ot w = true := by decide +kernel
theorem ktX10_344 : kLT RX10 "java/util/NoSuchElementException" 342 346 344 13 prog_29_method_4_code 27 "no such drawing is kept" := ⟨by decide +kernel, w_916, w_117, rfl, kat_346, kao_346, by decide +kernel, by decide +kernel, by decide +kernel, by decide +kernel⟩
theorem ktX10_374 : kLT RX10 "java/lang/IllegalArgumentException" 372 376 374 7 prog_18_method_2_code 0 "the tape has not so many bytes" := ⟨by decide +kernel, w_620, w_109, rfl, kat_376, kao_376, by decide +kernel, by decide +kernel, by decide +kernel, by decide +kernel⟩
theorem ktX10_377 : kLT RX10 "java/util/NoSuchElementException" 342 346 377 13 prog_29_method_4_code 25 "no such portrait" := ⟨by decide +kernel, w_916, w_117, rfl, kat_346, kao_346, by decide +kernel, by decide +kernel, by decide +kernel, by decide +kernel⟩
theorem ktX10_379 : kLT RX10 "java/util/NoSuchElementException" 342 346 379 13 prog_29_method_4_code 22 "no such pendulum" := ⟨by decide +kernel, w_916, w_117, rfl, kat_346, kao_346, by decide +kernel, by decide +kernel, by decide +kernel, by decide +kernel⟩
theorem ktX10_381 : kLT RX10 "java/util/NoSuchElementException" 342 346 381 13 prog_29_method_4_code 20 "no such question" := ⟨by decide +kernel, w_916, w_117, rfl, kat_346, kao_346, by decide +kernel, by decide +kernel, by decide +kernel, by decide +kernel⟩
theorem ktX10_383 : kLT RX10 "java/util/NoSuchElementException" 342 346 383 13 prog_29_method_4_code 21 "no such cell" := ⟨by decide +kernel, w_916, w_117, rfl, kat_346, kao_346, by decide +kernel, by decide +kernel, by decide +kernel, by decide +kernel⟩
theorem ktX10_385 : kLT RX10 "java/lang/IllegalArgumentException" 372 376 385 7 prog_18_method_2_code 23 "no tick" := ⟨by decide +kernel, w_620, w_109, rfl, kat_376, kao_376, by decide +kernel, by decide +kernel, by decide +kernel, by decide +kernel⟩
theorem ktX10_387 : kLT RX10 "java/lang/IllegalArgumentException" 372 376 387 7 prog_18_method_2_code 24 "no such span of ticks" := ⟨by decide +kernel, w_620, w_109, rfl, kat_376, kao_376, by decide +kernel, by decide +kernel, by decide +kernel, by decide +kernel⟩
theorem ktX10_389 : kLT RX10 "java/lang/IllegalArgumentException" 372 376 389 7 prog_18_method_2_code 26 "a number is not as told" := ⟨by decide +kernel, w_620, w_109, rfl, kat_376, kao_376, by decide +kernel, by decide +kernel, by decide +kernel, by decide +kernel⟩
end AUX
theorem it_t {α : Type} {c : Prop} [Decidable c] {a b : α} {P : α → Prop} (q : c) (k : P (if c then a else b)) : P a := by rw [if_pos q] at k; exact k
theorem it_f {α : Type} {c : Prop} [Decidable c] {a b : α} {P : α → Prop} (q : ¬ c) (k : P (if c then a else b)) : P b := by rw [if_neg q] at k; exact k
theorem sw_at {α : Type} {a b : α} {P : α → Prop} (q : b = a) (k : P b) : P a := q ▸ k
