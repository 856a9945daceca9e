section MADE2
variable {G : GX} {j : MX} {pc : Nat} {ls : mL} {st : List Value} {h hS : mH} {Q : mO → mH → Prop} {o0 L : Nat} {f : Nat → Nat → Int32}
def rSub (c k0 a b : Nat) : Bool := (List.range 61).all (fun k => match rOff c k with
  | some d => !(decide (a ≤ d) && decide (d < b)) || (k == k0 && (d == a))
  | none => true)
theorem rSub_of {c k0 a b k d : Nat} (hr : rSub c k0 a b = true) (h1 : rOff c k = some d) (h2 : a ≤ d) (h3 : d < b) : k = k0 ∧ d = a := by
  have := List.all_eq_true.mp hr k (List.mem_range.mpr (rOff_b h1).2.1)
  simp only [h1] at this
  simp [h2, h3] at this
  exact this
/-- the field k0 of o0 is told, the others stay -/
def Kp (o0 k0 L : Nat) (h h' : mH) : Prop := gR h' o0 k0 = .ref L ∧ ∀ k, k ≠ k0 → gR h' o0 k = gR h o0 k
theorem w_arrK {i c cn ca N k0 : Nat} {n : Int32} {at9 : ArrayType} (I : In hS o0 L f h) (d1 : decode (jC j) pc = .ok (.newarray at9, 2)) (d2 : decode (jC j) (pc + 2) = .ok (.putfield i, 3)) (hat : (at9 = .int ∧ ca = 100) ∨ (at9 = .byte ∧ ca = 101) ∨ (at9 = .long ∧ ca = 102)) (hw : Cond.arrayClass (newarray.typeOf at9) ∈ gT) (hn : ¬ n < 0) (hN : n.toNatClampNeg = N) (hB : N ≤ 3000) (hF : FL (jY j).cls i c k0) (hFF : FF c k0 true) (hbi : (jY j).name = "<init>" ∧ ∀ C T N, mCl[c]? = some (C, T, N) → (T k0).1 = (jY j).cls) (ht : isRefT (mTy c k0) = true) (e0 : kd o0 = (c, cn)) (eL : kd L = (ca, N)) (hL : L < 117) (h0 : o0 < L) (hf : ∀ k, f L k = 0) (ho : rOff c k0 = some (L - o0)) (k : ∀ h', In hS o0 (L + 1) f h' → Kp o0 k0 L h h' → Vw G j (pc + 5) ls st h' Q) : Vw G j pc ls (.int n :: .ref o0 :: st) h Q := by
  have ln := I.len (by omega)
  have sb := I.sl (by omega)
  have J := I.arr (k0 := k0) hL h0 eL (by omega) hf (by rw [e0]; exact ho)
  have oc : (aN h ca N).1[o0]? = some (c, cn) := by
    show (h.1 ++ [(ca, N)])[o0]? = _
    rw [List.getElem?_append_left (by omega), I.at0 (by omega) h0, e0]
  refine s_newarray (t0 := 0) d1 hat hw hn hN (by omega) (by rw [ln]; show L + 1 ≤ 1150; omega) (by show sl h + N ≤ 21356; omega) ?_
  rw [ln]
  refine s_putR true d2 hF hFF (fun _ => hbi) ht oc (k _ J ⟨by rw [gR_pR, if_pos ⟨rfl, rfl⟩], fun q hq => ?_⟩)
  rw [gR_pR, if_neg (fun z => hq z.2), gR_aN (by omega)]
/-- a thing with what belongs to it is made, and laid into a field -/
theorem w_sub {i iP c cn c' N k0 m : Nat} {C : String} {T : u_T} (b : Bool) (I : In hS o0 L f h) (d1 : decode (jC j) pc = .ok (.new i, 3)) (d2 : decode (jC j) (pc + 3) = .ok (.dup, 1)) (d4 : decode (jC j) (pc + 7) = .ok (.putfield iP, 3)) (hc : CL c' C T N) (hok : ∀ k, k < N → okT (mTy c' k) = true) (hlk : Cond.classLink (jY j).cls i C ∈ gT) (hins : Cond.instantiable C N ∈ gT) (hini : Cond.initialized C ∈ gT) (hF : FL (jY j).cls iP c k0) (hFF : FF c k0 b) (hbi : b = true → (jY j).name = "<init>" ∧ ∀ C T N, mCl[c]? = some (C, T, N) → (T k0).1 = (jY j).cls) (ht : isRefT (mTy c k0) = true) (e0 : kd o0 = (c, cn)) (eL : kd L = (c', N)) (hN : N ≤ 100) (hL : L + m ≤ 117) (h0 : o0 < L) (hm : 1 ≤ m) (hf : ∀ o k, L ≤ o → o < L + m → f o k = iv o k) (hs : rSub c k0 (L - o0) (L + m - o0) = true) (hn : ∀ d, rOff c k0 = some d → L ≤ o0 + d)
    (call : (aN h c' N).1 = kdL.take (L + 1) → (∀ k, gI (aN h c' N) L k = 0) → (∀ h2, Dn (aN h c' N) L m h2 → Vw G j (pc + 7) ls (.ref L :: .ref o0 :: st) h2 Q) → Vw G j (pc + 4) ls (.ref L :: .ref L :: .ref o0 :: st) (aN h c' N) Q)
    (k : ∀ h', In hS o0 (L + m) f h' → Kp o0 k0 L h h' → Vw G j (pc + 10) ls st h' Q) : Vw G j pc ls (.ref o0 :: st) h Q := by
  have ln := I.len (by omega)
  have sb := I.sl (by omega)
  refine s_new d1 hc hok hlk hins hini (by rw [ln]; show L + 1 ≤ 1150; omega) (by show sl h + N ≤ 21356; omega) ?_
  rw [ln]
  refine s_dupr d2 (call ?_ ?_ (fun h2 D => ?_))
  · show h.1 ++ [(c', N)] = _
    rw [I.1, tk_s (by omega), eL]
  · intro q
    have := gI_aN0 (h := h) (c := c') (n := N) (k := q)
    rw [ln] at this
    exact this
  · have J := I.sub (k0 := k0) (by omega) h0 eL D hf hm (fun q d y1 y2 y3 => by
      rw [e0] at y1
      have := rSub_of hs y1 (by omega) (by omega)
      omega) (fun d y => hn d (by rw [e0] at y; exact y))
    have oc : h2.1[o0]? = some (c, cn) := by rw [D.1, tk_at (by omega) hL, e0]
    refine s_putR b d4 hF hFF hbi ht oc (k _ J ⟨by rw [gR_pR, if_pos ⟨rfl, rfl⟩], fun q hq => ?_⟩)
    rw [gR_pR, if_neg (fun z => hq z.2), (D.2.1 o0 q h0).2, gR_aN (by omega)]
theorem In.fill {a : Nat} {g : mH} (I : In hS o0 L (fun _ _ => 0) h) (e1 : g.1 = h.1) (e2 : ∀ o k, gR g o k = gR h o k) (e3 : ∀ o k, o ≠ a → gI g o k = gI h o k) (e4 : ∀ k, 4 ≤ k → gI g a k = gI h a k) (e5 : ∀ k, k < 4 → gI g a k = 2) (ha : o0 < a) : In hS o0 L (fun o k => if o = a ∧ k < 4 then 2 else 0) g := by
  obtain ⟨x1, x2, x3, x4, x5⟩ := I
  refine ⟨e1.trans x1, fun o k h1 => ?_, fun o k h1 h2 => ?_, fun k d h1 h2 => by rw [e2]; exact x4 k d h1 h2, fun o k d h1 h2 h3 => by rw [e2]; exact x5 o k d h1 h2 h3⟩
  · rw [e2, e3 o k (by omega)]
    exact x2 o k h1
  · show _ = if o = a ∧ k < 4 then (2 : Int32) else 0
    by_cases c : o = a
    · subst c
      by_cases c4 : k < 4
      · rw [if_pos ⟨rfl, c4⟩, e5 k c4]
      · rw [if_neg (fun z => c4 z.2), e4 k (by omega)]
        exact x3 o k h1 h2
    · rw [if_neg (fun z => c z.1), e3 o k c]
      exact x3 o k h1 h2
/-- the model's row of lengths -/
theorem len4_In (I : In hS 83 85 (fun o k => if o = 83 then 0 else iv o k) h) : In hS 83 86 (fun o k => if o = 83 then 0 else iv o k) (pR (pI (pI (pI (pI (aN h 100 4) 85 0 2) 85 1 2) 85 2 2) 85 3 2) 83 4 (.ref 85)) ∧ (aN h 100 4).1[85]? = some (100, 4) ∧ (aN h 100 4).1[83]? = some (10, 61) := by
  have ln := I.len (by decide)
  have a83 := I.at0 (by decide) (by decide)
  obtain ⟨x1, x2, x3, x4, x5⟩ := I
  have sh : (aN h 100 4).1 = kdL.take 86 := by
    show h.1 ++ [(100, 4)] = _
    rw [x1, tk_s (by decide)]
    rfl
  refine ⟨⟨sh, fun o k h1 => ?_, fun o k h1 h2 => ?_, fun k d h1 h2 => ?_, fun o k d h1 h2 h3 => ?_⟩, by rw [sh]; exact tk_at (by decide) (by decide), by rw [sh]; exact tk_at (by decide) (by decide)⟩
  · rw [gI_pR, gI_pI, if_neg (by omega), gI_pI, if_neg (by omega), gI_pI, if_neg (by omega), gI_pI, if_neg (by omega), gI_aN (by omega), gR_pR, if_neg (by omega)]
    refine ⟨(x2 o k h1).1, ?_⟩
    show gR (aN h 100 4) o k = _
    rw [gR_aN (by omega)]
    exact (x2 o k h1).2
  · rw [gI_pR, gI_pI, gI_pI, gI_pI, gI_pI]
    by_cases c : o = 85
    · subst c
      have z : gI (aN h 100 4) 85 k = 0 := by
        have := gI_aN0 (h := h) (c := 100) (n := 4) (k := k)
        rw [ln] at this
        exact this
      rw [z]
      show _ = if (85 : Nat) = 83 then (0 : Int32) else iv 85 k
      by_cases k4 : k < 4
      · rcases (show k = 0 ∨ k = 1 ∨ k = 2 ∨ k = 3 by omega) with rfl | rfl | rfl | rfl <;> decide
      · rw [if_neg (by omega), if_neg (by omega), if_neg (by omega), if_neg (by omega), if_neg (by decide)]
        unfold iv
        rw [if_neg (by omega), if_neg (by omega)]
    · rw [if_neg (by omega), if_neg (by omega), if_neg (by omega), if_neg (by omega), gI_aN (by omega)]
      exact x3 o k h1 (by omega)
  · by_cases c : d = 2
    · subst c
      have : k = 4 := rOff_inj h1 (show rOff (kd 83).1 4 = some 2 from rfl)
      subst this
      rw [gR_pR, if_pos ⟨rfl, rfl⟩]
    · have : k ≠ 4 := fun z => by
        subst z
        have e : rOff (kd 83).1 4 = some 2 := rfl
        rw [e] at h1
        cases h1
        exact c rfl
      rw [gR_pR, if_neg (fun z => this z.2)]
      show gR (aN h 100 4) 83 k = _
      rw [gR_aN (by omega)]
      exact x4 k d h1 (by omega)
  · by_cases c : o = 85
    · subst c
      have := (rOff_b h3).1
      exact absurd this (by decide)
    · rw [gR_pR, if_neg (by omega)]
      show gR (aN h 100 4) o k = _
      rw [gR_aN (by omega)]
      exact x5 o k d h1 (by omega) h3
theorem dX0_init_0 : decode cX0_init 0 = .ok (.aload_n 0, 1) := by decide +kernel
theorem dX0_init_1 : decode cX0_init 1 = .ok (.invokespecial 3, 3) := by decide +kernel
theorem dX0_init_4 : decode cX0_init 4 = .ok (.aload_n 0, 1) := by decide +kernel
theorem dX0_init_5 : decode cX0_init 5 = .ok (.bipush 8, 2) := by decide +kernel
theorem dX0_init_7 : decode cX0_init 7 = .ok (.newarray .int, 2) := by decide +kernel
theorem dX0_init_9 : decode cX0_init 9 = .ok (.putfield 9, 3) := by decide +kernel
theorem dX0_init_12 : decode cX0_init 12 = .ok (.aload_n 0, 1) := by decide +kernel
theorem dX0_init_13 : decode cX0_init 13 = .ok (.bipush 80, 2) := by decide +kernel
theorem dX0_init_15 : decode cX0_init 15 = .ok (.newarray .int, 2) := by decide +kernel
theorem dX0_init_17 : decode cX0_init 17 = .ok (.putfield 15, 3) := by decide +kernel
theorem dX0_init_20 : decode cX0_init 20 = .ok (.aload_n 0, 1) := by decide +kernel
theorem dX0_init_21 : decode cX0_init 21 = .ok (.sipush 2048, 3) := by decide +kernel
theorem dX0_init_24 : decode cX0_init 24 = .ok (.newarray .int, 2) := by decide +kernel
theorem dX0_init_26 : decode cX0_init 26 = .ok (.putfield 18, 3) := by decide +kernel
theorem dX0_init_29 : decode cX0_init 29 = .ok (.aload_n 0, 1) := by decide +kernel
theorem dX0_init_30 : decode cX0_init 30 = .ok (.sipush 2048, 3) := by decide +kernel
theorem dX0_init_33 : decode cX0_init 33 = .ok (.newarray .int, 2) := by decide +kernel
theorem dX0_init_35 : decode cX0_init 35 = .ok (.putfield 21, 3) := by decide +kernel
theorem dX0_init_38 : decode cX0_init 38 = .ok (.return_, 1) := by decide +kernel
theorem dX1_init_0 : decode cX1_init 0 = .ok (.aload_n 0, 1) := by decide +kernel
theorem dX1_init_1 : decode cX1_init 1 = .ok (.invokespecial 5, 3) := by decide +kernel
theorem dX1_init_4 : decode cX1_init 4 = .ok (.aload_n 0, 1) := by decide +kernel
theorem dX1_init_5 : decode cX1_init 5 = .ok (.sipush 144, 3) := by decide +kernel
theorem dX1_init_8 : decode cX1_init 8 = .ok (.newarray .int, 2) := by decide +kernel
theorem dX1_init_10 : decode cX1_init 10 = .ok (.putfield 11, 3) := by decide +kernel
theorem dX1_init_13 : decode cX1_init 13 = .ok (.aload_n 0, 1) := by decide +kernel
theorem dX1_init_14 : decode cX1_init 14 = .ok (.sipush 432, 3) := by decide +kernel
theorem dX1_init_17 : decode cX1_init 17 = .ok (.newarray .int, 2) := by decide +kernel
theorem dX1_init_19 : decode cX1_init 19 = .ok (.putfield 15, 3) := by decide +kernel
theorem dX1_init_22 : decode cX1_init 22 = .ok (.aload_n 0, 1) := by decide +kernel
theorem dX1_init_23 : decode cX1_init 23 = .ok (.bipush 12, 2) := by decide +kernel
theorem dX1_init_25 : decode cX1_init 25 = .ok (.newarray .int, 2) := by decide +kernel
theorem dX1_init_27 : decode cX1_init 27 = .ok (.putfield 18, 3) := by decide +kernel
theorem dX1_init_30 : decode cX1_init 30 = .ok (.return_, 1) := by decide +kernel
theorem dX2_init_0 : decode cX2_init 0 = .ok (.aload_n 0, 1) := by decide +kernel
theorem dX2_init_1 : decode cX2_init 1 = .ok (.invokespecial 3, 3) := by decide +kernel
theorem dX2_init_4 : decode cX2_init 4 = .ok (.aload_n 0, 1) := by decide +kernel
theorem dX2_init_5 : decode cX2_init 5 = .ok (.iconst 4, 1) := by decide +kernel
theorem dX2_init_6 : decode cX2_init 6 = .ok (.newarray .int, 2) := by decide +kernel
theorem dX2_init_8 : decode cX2_init 8 = .ok (.putfield 9, 3) := by decide +kernel
theorem dX2_init_11 : decode cX2_init 11 = .ok (.aload_n 0, 1) := by decide +kernel
theorem dX2_init_12 : decode cX2_init 12 = .ok (.iconst 4, 1) := by decide +kernel
theorem dX2_init_13 : decode cX2_init 13 = .ok (.newarray .int, 2) := by decide +kernel
theorem dX2_init_15 : decode cX2_init 15 = .ok (.putfield 15, 3) := by decide +kernel
theorem dX2_init_18 : decode cX2_init 18 = .ok (.aload_n 0, 1) := by decide +kernel
theorem dX2_init_19 : decode cX2_init 19 = .ok (.iconst 4, 1) := by decide +kernel
theorem dX2_init_20 : decode cX2_init 20 = .ok (.newarray .int, 2) := by decide +kernel
theorem dX2_init_22 : decode cX2_init 22 = .ok (.putfield 18, 3) := by decide +kernel
theorem dX2_init_25 : decode cX2_init 25 = .ok (.aload_n 0, 1) := by decide +kernel
theorem dX2_init_26 : decode cX2_init 26 = .ok (.bipush 12, 2) := by decide +kernel
theorem dX2_init_28 : decode cX2_init 28 = .ok (.newarray .int, 2) := by decide +kernel
theorem dX2_init_30 : decode cX2_init 30 = .ok (.putfield 21, 3) := by decide +kernel
theorem dX2_init_33 : decode cX2_init 33 = .ok (.aload_n 0, 1) := by decide +kernel
theorem dX2_init_34 : decode cX2_init 34 = .ok (.iconst 4, 1) := by decide +kernel
theorem dX2_init_35 : decode cX2_init 35 = .ok (.newarray .int, 2) := by decide +kernel
theorem dX2_init_37 : decode cX2_init 37 = .ok (.putfield 24, 3) := by decide +kernel
theorem dX2_init_40 : decode cX2_init 40 = .ok (.aload_n 0, 1) := by decide +kernel
theorem dX2_init_41 : decode cX2_init 41 = .ok (.bipush 8, 2) := by decide +kernel
theorem dX2_init_43 : decode cX2_init 43 = .ok (.newarray .int, 2) := by decide +kernel
theorem dX2_init_45 : decode cX2_init 45 = .ok (.putfield 27, 3) := by decide +kernel
theorem dX2_init_48 : decode cX2_init 48 = .ok (.aload_n 0, 1) := by decide +kernel
theorem dX2_init_49 : decode cX2_init 49 = .ok (.sipush 364, 3) := by decide +kernel
theorem dX2_init_52 : decode cX2_init 52 = .ok (.newarray .int, 2) := by decide +kernel
theorem dX2_init_54 : decode cX2_init 54 = .ok (.putfield 30, 3) := by decide +kernel
theorem dX2_init_57 : decode cX2_init 57 = .ok (.aload_n 0, 1) := by decide +kernel
theorem dX2_init_58 : decode cX2_init 58 = .ok (.iconst 4, 1) := by decide +kernel
theorem dX2_init_59 : decode cX2_init 59 = .ok (.newarray .int, 2) := by decide +kernel
theorem dX2_init_61 : decode cX2_init 61 = .ok (.putfield 33, 3) := by decide +kernel
theorem dX2_init_64 : decode cX2_init 64 = .ok (.aload_n 0, 1) := by decide +kernel
theorem dX2_init_65 : decode cX2_init 65 = .ok (.iconst 4, 1) := by decide +kernel
theorem dX2_init_66 : decode cX2_init 66 = .ok (.newarray .int, 2) := by decide +kernel
theorem dX2_init_68 : decode cX2_init 68 = .ok (.putfield 36, 3) := by decide +kernel
theorem dX2_init_71 : decode cX2_init 71 = .ok (.aload_n 0, 1) := by decide +kernel
theorem dX2_init_72 : decode cX2_init 72 = .ok (.getfield 15, 3) := by decide +kernel
theorem dX2_init_75 : decode cX2_init 75 = .ok (.iconst 2, 1) := by decide +kernel
theorem dX2_init_76 : decode cX2_init 76 = .ok (.invokestatic 39, 3) := by decide +kernel
theorem dX2_init_79 : decode cX2_init 79 = .ok (.return_, 1) := by decide +kernel
theorem dX3_init_0 : decode cX3_init 0 = .ok (.aload_n 0, 1) := by decide +kernel
theorem dX3_init_1 : decode cX3_init 1 = .ok (.invokespecial 3, 3) := by decide +kernel
theorem dX3_init_4 : decode cX3_init 4 = .ok (.aload_n 0, 1) := by decide +kernel
theorem dX3_init_5 : decode cX3_init 5 = .ok (.bipush 12, 2) := by decide +kernel
theorem dX3_init_7 : decode cX3_init 7 = .ok (.newarray .int, 2) := by decide +kernel
theorem dX3_init_9 : decode cX3_init 9 = .ok (.putfield 9, 3) := by decide +kernel
theorem dX3_init_12 : decode cX3_init 12 = .ok (.aload_n 0, 1) := by decide +kernel
theorem dX3_init_13 : decode cX3_init 13 = .ok (.bipush 96, 2) := by decide +kernel
theorem dX3_init_15 : decode cX3_init 15 = .ok (.newarray .int, 2) := by decide +kernel
theorem dX3_init_17 : decode cX3_init 17 = .ok (.putfield 15, 3) := by decide +kernel
theorem dX3_init_20 : decode cX3_init 20 = .ok (.aload_n 0, 1) := by decide +kernel
theorem dX3_init_21 : decode cX3_init 21 = .ok (.bipush 18, 2) := by decide +kernel
theorem dX3_init_23 : decode cX3_init 23 = .ok (.newarray .int, 2) := by decide +kernel
theorem dX3_init_25 : decode cX3_init 25 = .ok (.putfield 18, 3) := by decide +kernel
theorem dX3_init_28 : decode cX3_init 28 = .ok (.aload_n 0, 1) := by decide +kernel
theorem dX3_init_29 : decode cX3_init 29 = .ok (.bipush 10, 2) := by decide +kernel
theorem dX3_init_31 : decode cX3_init 31 = .ok (.newarray .int, 2) := by decide +kernel
theorem dX3_init_33 : decode cX3_init 33 = .ok (.putfield 21, 3) := by decide +kernel
theorem dX3_init_36 : decode cX3_init 36 = .ok (.return_, 1) := by decide +kernel
theorem dX4_init_0 : decode cX4_init 0 = .ok (.aload_n 0, 1) := by decide +kernel
theorem dX4_init_1 : decode cX4_init 1 = .ok (.invokespecial 3, 3) := by decide +kernel
theorem dX4_init_4 : decode cX4_init 4 = .ok (.aload_n 0, 1) := by decide +kernel
theorem dX4_init_5 : decode cX4_init 5 = .ok (.iconst 4, 1) := by decide +kernel
theorem dX4_init_6 : decode cX4_init 6 = .ok (.newarray .int, 2) := by decide +kernel
theorem dX4_init_8 : decode cX4_init 8 = .ok (.putfield 9, 3) := by decide +kernel
theorem dX4_init_11 : decode cX4_init 11 = .ok (.aload_n 0, 1) := by decide +kernel
theorem dX4_init_12 : decode cX4_init 12 = .ok (.iconst 4, 1) := by decide +kernel
theorem dX4_init_13 : decode cX4_init 13 = .ok (.newarray .int, 2) := by decide +kernel
theorem dX4_init_15 : decode cX4_init 15 = .ok (.putfield 15, 3) := by decide +kernel
theorem dX4_init_18 : decode cX4_init 18 = .ok (.return_, 1) := by decide +kernel
theorem dX5_init_0 : decode cX5_init 0 = .ok (.aload_n 0, 1) := by decide +kernel
theorem dX5_init_1 : decode cX5_init 1 = .ok (.invokespecial 3, 3) := by decide +kernel
theorem dX5_init_4 : decode cX5_init 4 = .ok (.aload_n 0, 1) := by decide +kernel
theorem dX5_init_5 : decode cX5_init 5 = .ok (.iconst (-1), 1) := by decide +kernel
theorem dX5_init_6 : decode cX5_init 6 = .ok (.putfield 9, 3) := by decide +kernel
theorem dX5_init_9 : decode cX5_init 9 = .ok (.return_, 1) := by decide +kernel
theorem dX6_init_0 : decode cX6_init 0 = .ok (.aload_n 0, 1) := by decide +kernel
theorem dX6_init_1 : decode cX6_init 1 = .ok (.invokespecial 3, 3) := by decide +kernel
theorem dX6_init_4 : decode cX6_init 4 = .ok (.aload_n 0, 1) := by decide +kernel
theorem dX6_init_5 : decode cX6_init 5 = .ok (.new 9, 3) := by decide +kernel
theorem dX6_init_8 : decode cX6_init 8 = .ok (.dup, 1) := by decide +kernel
theorem dX6_init_9 : decode cX6_init 9 = .ok (.invokespecial 11, 3) := by decide +kernel
theorem dX6_init_12 : decode cX6_init 12 = .ok (.putfield 12, 3) := by decide +kernel
theorem dX6_init_15 : decode cX6_init 15 = .ok (.aload_n 0, 1) := by decide +kernel
theorem dX6_init_16 : decode cX6_init 16 = .ok (.sipush 729, 3) := by decide +kernel
theorem dX6_init_19 : decode cX6_init 19 = .ok (.newarray .int, 2) := by decide +kernel
theorem dX6_init_21 : decode cX6_init 21 = .ok (.putfield 18, 3) := by decide +kernel
theorem dX6_init_24 : decode cX6_init 24 = .ok (.aload_n 0, 1) := by decide +kernel
theorem dX6_init_25 : decode cX6_init 25 = .ok (.bipush 100, 2) := by decide +kernel
theorem dX6_init_27 : decode cX6_init 27 = .ok (.newarray .int, 2) := by decide +kernel
theorem dX6_init_29 : decode cX6_init 29 = .ok (.putfield 24, 3) := by decide +kernel
theorem dX6_init_32 : decode cX6_init 32 = .ok (.aload_n 0, 1) := by decide +kernel
theorem dX6_init_33 : decode cX6_init 33 = .ok (.iconst (-1), 1) := by decide +kernel
theorem dX6_init_34 : decode cX6_init 34 = .ok (.putfield 27, 3) := by decide +kernel
theorem dX6_init_37 : decode cX6_init 37 = .ok (.return_, 1) := by decide +kernel
theorem dX7_init_0 : decode cX7_init 0 = .ok (.aload_n 0, 1) := by decide +kernel
theorem dX7_init_1 : decode cX7_init 1 = .ok (.invokespecial 5, 3) := by decide +kernel
theorem dX7_init_4 : decode cX7_init 4 = .ok (.aload_n 0, 1) := by decide +kernel
theorem dX7_init_5 : decode cX7_init 5 = .ok (.bipush 100, 2) := by decide +kernel
theorem dX7_init_7 : decode cX7_init 7 = .ok (.newarray .int, 2) := by decide +kernel
theorem dX7_init_9 : decode cX7_init 9 = .ok (.putfield 13, 3) := by decide +kernel
theorem dX7_init_12 : decode cX7_init 12 = .ok (.aload_n 0, 1) := by decide +kernel
theorem dX7_init_13 : decode cX7_init 13 = .ok (.bipush 100, 2) := by decide +kernel
theorem dX7_init_15 : decode cX7_init 15 = .ok (.newarray .int, 2) := by decide +kernel
theorem dX7_init_17 : decode cX7_init 17 = .ok (.putfield 17, 3) := by decide +kernel
theorem dX7_init_20 : decode cX7_init 20 = .ok (.aload_n 0, 1) := by decide +kernel
theorem dX7_init_21 : decode cX7_init 21 = .ok (.bipush 100, 2) := by decide +kernel
theorem dX7_init_23 : decode cX7_init 23 = .ok (.newarray .int, 2) := by decide +kernel
theorem dX7_init_25 : decode cX7_init 25 = .ok (.putfield 20, 3) := by decide +kernel
theorem dX7_init_28 : decode cX7_init 28 = .ok (.aload_n 0, 1) := by decide +kernel
theorem dX7_init_29 : decode cX7_init 29 = .ok (.bipush 100, 2) := by decide +kernel
theorem dX7_init_31 : decode cX7_init 31 = .ok (.newarray .int, 2) := by decide +kernel
theorem dX7_init_33 : decode cX7_init 33 = .ok (.putfield 23, 3) := by decide +kernel
theorem dX7_init_36 : decode cX7_init 36 = .ok (.aload_n 0, 1) := by decide +kernel
theorem dX7_init_37 : decode cX7_init 37 = .ok (.iconst 5, 1) := by decide +kernel
theorem dX7_init_38 : decode cX7_init 38 = .ok (.newarray .int, 2) := by decide +kernel
theorem dX7_init_40 : decode cX7_init 40 = .ok (.putfield 26, 3) := by decide +kernel
theorem dX7_init_43 : decode cX7_init 43 = .ok (.return_, 1) := by decide +kernel
theorem dX9_init_0 : decode cX9_init 0 = .ok (.aload_n 0, 1) := by decide +kernel
theorem dX9_init_1 : decode cX9_init 1 = .ok (.invokespecial 3, 3) := by decide +kernel
theorem dX9_init_4 : decode cX9_init 4 = .ok (.aload_n 0, 1) := by decide +kernel
theorem dX9_init_5 : decode cX9_init 5 = .ok (.sipush 400, 3) := by decide +kernel
theorem dX9_init_8 : decode cX9_init 8 = .ok (.newarray .byte, 2) := by decide +kernel
theorem dX9_init_10 : decode cX9_init 10 = .ok (.putfield 11, 3) := by decide +kernel
theorem dX9_init_13 : decode cX9_init 13 = .ok (.aload_n 0, 1) := by decide +kernel
theorem dX9_init_14 : decode cX9_init 14 = .ok (.iconst (-1), 1) := by decide +kernel
theorem dX9_init_15 : decode cX9_init 15 = .ok (.putfield 15, 3) := by decide +kernel
theorem dX9_init_18 : decode cX9_init 18 = .ok (.return_, 1) := by decide +kernel
theorem dX10_init_0 : decode cX10_init 0 = .ok (.aload_n 0, 1) := by decide +kernel
theorem dX10_init_1 : decode cX10_init 1 = .ok (.invokespecial 3, 3) := by decide +kernel
theorem dX10_init_4 : decode cX10_init 4 = .ok (.aload_n 0, 1) := by decide +kernel
theorem dX10_init_5 : decode cX10_init 5 = .ok (.new 9, 3) := by decide +kernel
theorem dX10_init_8 : decode cX10_init 8 = .ok (.dup, 1) := by decide +kernel
theorem dX10_init_9 : decode cX10_init 9 = .ok (.invokespecial 11, 3) := by decide +kernel
theorem dX10_init_12 : decode cX10_init 12 = .ok (.putfield 12, 3) := by decide +kernel
theorem dX10_init_15 : decode cX10_init 15 = .ok (.aload_n 0, 1) := by decide +kernel
theorem dX10_init_16 : decode cX10_init 16 = .ok (.new 16, 3) := by decide +kernel
theorem dX10_init_19 : decode cX10_init 19 = .ok (.dup, 1) := by decide +kernel
theorem dX10_init_20 : decode cX10_init 20 = .ok (.invokespecial 18, 3) := by decide +kernel
theorem dX10_init_23 : decode cX10_init 23 = .ok (.putfield 19, 3) := by decide +kernel
theorem dX10_init_26 : decode cX10_init 26 = .ok (.aload_n 0, 1) := by decide +kernel
theorem dX10_init_27 : decode cX10_init 27 = .ok (.new 16, 3) := by decide +kernel
theorem dX10_init_30 : decode cX10_init 30 = .ok (.dup, 1) := by decide +kernel
theorem dX10_init_31 : decode cX10_init 31 = .ok (.invokespecial 18, 3) := by decide +kernel
theorem dX10_init_34 : decode cX10_init 34 = .ok (.putfield 23, 3) := by decide +kernel
theorem dX10_init_37 : decode cX10_init 37 = .ok (.aload_n 0, 1) := by decide +kernel
theorem dX10_init_38 : decode cX10_init 38 = .ok (.new 16, 3) := by decide +kernel
theorem dX10_init_41 : decode cX10_init 41 = .ok (.dup, 1) := by decide +kernel
theorem dX10_init_42 : decode cX10_init 42 = .ok (.invokespecial 18, 3) := by decide +kernel
theorem dX10_init_45 : decode cX10_init 45 = .ok (.putfield 26, 3) := by decide +kernel
theorem dX10_init_48 : decode cX10_init 48 = .ok (.aload_n 0, 1) := by decide +kernel
theorem dX10_init_49 : decode cX10_init 49 = .ok (.new 29, 3) := by decide +kernel
theorem dX10_init_52 : decode cX10_init 52 = .ok (.dup, 1) := by decide +kernel
theorem dX10_init_53 : decode cX10_init 53 = .ok (.invokespecial 31, 3) := by decide +kernel
theorem dX10_init_56 : decode cX10_init 56 = .ok (.putfield 32, 3) := by decide +kernel
theorem dX10_init_59 : decode cX10_init 59 = .ok (.aload_n 0, 1) := by decide +kernel
theorem dX10_init_60 : decode cX10_init 60 = .ok (.new 29, 3) := by decide +kernel
theorem dX10_init_63 : decode cX10_init 63 = .ok (.dup, 1) := by decide +kernel
theorem dX10_init_64 : decode cX10_init 64 = .ok (.invokespecial 31, 3) := by decide +kernel
theorem dX10_init_67 : decode cX10_init 67 = .ok (.putfield 36, 3) := by decide +kernel
theorem dX10_init_70 : decode cX10_init 70 = .ok (.aload_n 0, 1) := by decide +kernel
theorem dX10_init_71 : decode cX10_init 71 = .ok (.iconst 0, 1) := by decide +kernel
theorem dX10_init_72 : decode cX10_init 72 = .ok (.putfield 39, 3) := by decide +kernel
theorem dX10_init_75 : decode cX10_init 75 = .ok (.aload_n 0, 1) := by decide +kernel
theorem dX10_init_76 : decode cX10_init 76 = .ok (.new 43, 3) := by decide +kernel
theorem dX10_init_79 : decode cX10_init 79 = .ok (.dup, 1) := by decide +kernel
theorem dX10_init_80 : decode cX10_init 80 = .ok (.invokespecial 45, 3) := by decide +kernel
theorem dX10_init_83 : decode cX10_init 83 = .ok (.putfield 46, 3) := by decide +kernel
theorem dX10_init_86 : decode cX10_init 86 = .ok (.aload_n 0, 1) := by decide +kernel
theorem dX10_init_87 : decode cX10_init 87 = .ok (.new 43, 3) := by decide +kernel
theorem dX10_init_90 : decode cX10_init 90 = .ok (.dup, 1) := by decide +kernel
theorem dX10_init_91 : decode cX10_init 91 = .ok (.invokespecial 45, 3) := by decide +kernel
theorem dX10_init_94 : decode cX10_init 94 = .ok (.putfield 50, 3) := by decide +kernel
theorem dX10_init_97 : decode cX10_init 97 = .ok (.aload_n 0, 1) := by decide +kernel
theorem dX10_init_98 : decode cX10_init 98 = .ok (.new 53, 3) := by decide +kernel
theorem dX10_init_101 : decode cX10_init 101 = .ok (.dup, 1) := by decide +kernel
theorem dX10_init_102 : decode cX10_init 102 = .ok (.invokespecial 55, 3) := by decide +kernel
theorem dX10_init_105 : decode cX10_init 105 = .ok (.putfield 56, 3) := by decide +kernel
theorem dX10_init_108 : decode cX10_init 108 = .ok (.aload_n 0, 1) := by decide +kernel
theorem dX10_init_109 : decode cX10_init 109 = .ok (.new 60, 3) := by decide +kernel
theorem dX10_init_112 : decode cX10_init 112 = .ok (.dup, 1) := by decide +kernel
theorem dX10_init_113 : decode cX10_init 113 = .ok (.invokespecial 62, 3) := by decide +kernel
theorem dX10_init_116 : decode cX10_init 116 = .ok (.putfield 63, 3) := by decide +kernel
theorem dX10_init_119 : decode cX10_init 119 = .ok (.aload_n 0, 1) := by decide +kernel
theorem dX10_init_120 : decode cX10_init 120 = .ok (.new 67, 3) := by decide +kernel
theorem dX10_init_123 : decode cX10_init 123 = .ok (.dup, 1) := by decide +kernel
theorem dX10_init_124 : decode cX10_init 124 = .ok (.invokespecial 69, 3) := by decide +kernel
theorem dX10_init_127 : decode cX10_init 127 = .ok (.putfield 70, 3) := by decide +kernel
theorem dX10_init_130 : decode cX10_init 130 = .ok (.aload_n 0, 1) := by decide +kernel
theorem dX10_init_131 : decode cX10_init 131 = .ok (.new 74, 3) := by decide +kernel
theorem dX10_init_134 : decode cX10_init 134 = .ok (.dup, 1) := by decide +kernel
theorem dX10_init_135 : decode cX10_init 135 = .ok (.invokespecial 76, 3) := by decide +kernel
theorem dX10_init_138 : decode cX10_init 138 = .ok (.putfield 77, 3) := by decide +kernel
theorem dX10_init_141 : decode cX10_init 141 = .ok (.aload_n 0, 1) := by decide +kernel
theorem dX10_init_142 : decode cX10_init 142 = .ok (.new 81, 3) := by decide +kernel
theorem dX10_init_145 : decode cX10_init 145 = .ok (.dup, 1) := by decide +kernel
theorem dX10_init_146 : decode cX10_init 146 = .ok (.invokespecial 83, 3) := by decide +kernel
theorem dX10_init_149 : decode cX10_init 149 = .ok (.putfield 84, 3) := by decide +kernel
theorem dX10_init_152 : decode cX10_init 152 = .ok (.aload_n 0, 1) := by decide +kernel
theorem dX10_init_153 : decode cX10_init 153 = .ok (.sipush 729, 3) := by decide +kernel
theorem dX10_init_156 : decode cX10_init 156 = .ok (.newarray .int, 2) := by decide +kernel
theorem dX10_init_158 : decode cX10_init 158 = .ok (.putfield 88, 3) := by decide +kernel
theorem dX10_init_161 : decode cX10_init 161 = .ok (.aload_n 0, 1) := by decide +kernel
theorem dX10_init_162 : decode cX10_init 162 = .ok (.iconst 5, 1) := by decide +kernel
theorem dX10_init_163 : decode cX10_init 163 = .ok (.newarray .int, 2) := by decide +kernel
theorem dX10_init_165 : decode cX10_init 165 = .ok (.putfield 92, 3) := by decide +kernel
theorem dX10_init_168 : decode cX10_init 168 = .ok (.aload_n 0, 1) := by decide +kernel
theorem dX10_init_169 : decode cX10_init 169 = .ok (.iconst 0, 1) := by decide +kernel
theorem dX10_init_170 : decode cX10_init 170 = .ok (.putfield 95, 3) := by decide +kernel
theorem dX10_init_173 : decode cX10_init 173 = .ok (.return_, 1) := by decide +kernel
theorem dX11_init_0 : decode cX11_init 0 = .ok (.aload_n 0, 1) := by decide +kernel
theorem dX11_init_1 : decode cX11_init 1 = .ok (.invokespecial 1, 3) := by decide +kernel
theorem dX11_init_4 : decode cX11_init 4 = .ok (.aload_n 0, 1) := by decide +kernel
theorem dX11_init_5 : decode cX11_init 5 = .ok (.iconst 4, 1) := by decide +kernel
theorem dX11_init_6 : decode cX11_init 6 = .ok (.newarray .int, 2) := by decide +kernel
theorem dX11_init_8 : decode cX11_init 8 = .ok (.putfield 7, 3) := by decide +kernel
theorem dX11_init_11 : decode cX11_init 11 = .ok (.aload_n 0, 1) := by decide +kernel
theorem dX11_init_12 : decode cX11_init 12 = .ok (.iconst 4, 1) := by decide +kernel
theorem dX11_init_13 : decode cX11_init 13 = .ok (.newarray .int, 2) := by decide +kernel
theorem dX11_init_15 : decode cX11_init 15 = .ok (.dup, 1) := by decide +kernel
theorem dX11_init_16 : decode cX11_init 16 = .ok (.iconst 0, 1) := by decide +kernel
theorem dX11_init_17 : decode cX11_init 17 = .ok (.iconst 2, 1) := by decide +kernel
theorem dX11_init_18 : decode cX11_init 18 = .ok (.iastore, 1) := by decide +kernel
theorem dX11_init_19 : decode cX11_init 19 = .ok (.dup, 1) := by decide +kernel
theorem dX11_init_20 : decode cX11_init 20 = .ok (.iconst 1, 1) := by decide +kernel
theorem dX11_init_21 : decode cX11_init 21 = .ok (.iconst 2, 1) := by decide +kernel
theorem dX11_init_22 : decode cX11_init 22 = .ok (.iastore, 1) := by decide +kernel
theorem dX11_init_23 : decode cX11_init 23 = .ok (.dup, 1) := by decide +kernel
theorem dX11_init_24 : decode cX11_init 24 = .ok (.iconst 2, 1) := by decide +kernel
theorem dX11_init_25 : decode cX11_init 25 = .ok (.iconst 2, 1) := by decide +kernel
theorem dX11_init_26 : decode cX11_init 26 = .ok (.iastore, 1) := by decide +kernel
theorem dX11_init_27 : decode cX11_init 27 = .ok (.dup, 1) := by decide +kernel
theorem dX11_init_28 : decode cX11_init 28 = .ok (.iconst 3, 1) := by decide +kernel
theorem dX11_init_29 : decode cX11_init 29 = .ok (.iconst 2, 1) := by decide +kernel
theorem dX11_init_30 : decode cX11_init 30 = .ok (.iastore, 1) := by decide +kernel
theorem dX11_init_31 : decode cX11_init 31 = .ok (.putfield 13, 3) := by decide +kernel
theorem dX11_init_34 : decode cX11_init 34 = .ok (.aload_n 0, 1) := by decide +kernel
theorem dX11_init_35 : decode cX11_init 35 = .ok (.iconst 4, 1) := by decide +kernel
theorem dX11_init_36 : decode cX11_init 36 = .ok (.newarray .int, 2) := by decide +kernel
theorem dX11_init_38 : decode cX11_init 38 = .ok (.putfield 16, 3) := by decide +kernel
theorem dX11_init_41 : decode cX11_init 41 = .ok (.aload_n 0, 1) := by decide +kernel
theorem dX11_init_42 : decode cX11_init 42 = .ok (.bipush 12, 2) := by decide +kernel
theorem dX11_init_44 : decode cX11_init 44 = .ok (.newarray .int, 2) := by decide +kernel
theorem dX11_init_46 : decode cX11_init 46 = .ok (.putfield 19, 3) := by decide +kernel
theorem dX11_init_49 : decode cX11_init 49 = .ok (.aload_n 0, 1) := by decide +kernel
theorem dX11_init_50 : decode cX11_init 50 = .ok (.bipush 12, 2) := by decide +kernel
theorem dX11_init_52 : decode cX11_init 52 = .ok (.newarray .int, 2) := by decide +kernel
theorem dX11_init_54 : decode cX11_init 54 = .ok (.putfield 22, 3) := by decide +kernel
theorem dX11_init_57 : decode cX11_init 57 = .ok (.aload_n 0, 1) := by decide +kernel
theorem dX11_init_58 : decode cX11_init 58 = .ok (.sipush 400, 3) := by decide +kernel
theorem dX11_init_61 : decode cX11_init 61 = .ok (.newarray .int, 2) := by decide +kernel
theorem dX11_init_63 : decode cX11_init 63 = .ok (.putfield 25, 3) := by decide +kernel
theorem dX11_init_66 : decode cX11_init 66 = .ok (.aload_n 0, 1) := by decide +kernel
theorem dX11_init_67 : decode cX11_init 67 = .ok (.iconst (-1), 1) := by decide +kernel
theorem dX11_init_68 : decode cX11_init 68 = .ok (.putfield 28, 3) := by decide +kernel
theorem dX11_init_71 : decode cX11_init 71 = .ok (.aload_n 0, 1) := by decide +kernel
theorem dX11_init_72 : decode cX11_init 72 = .ok (.iconst 5, 1) := by decide +kernel
theorem dX11_init_73 : decode cX11_init 73 = .ok (.newarray .int, 2) := by decide +kernel
theorem dX11_init_75 : decode cX11_init 75 = .ok (.putfield 32, 3) := by decide +kernel
theorem dX11_init_78 : decode cX11_init 78 = .ok (.aload_n 0, 1) := by decide +kernel
theorem dX11_init_79 : decode cX11_init 79 = .ok (.iconst 4, 1) := by decide +kernel
theorem dX11_init_80 : decode cX11_init 80 = .ok (.newarray .int, 2) := by decide +kernel
theorem dX11_init_82 : decode cX11_init 82 = .ok (.putfield 35, 3) := by decide +kernel
theorem dX11_init_85 : decode cX11_init 85 = .ok (.aload_n 0, 1) := by decide +kernel
theorem dX11_init_86 : decode cX11_init 86 = .ok (.iconst 4, 1) := by decide +kernel
theorem dX11_init_87 : decode cX11_init 87 = .ok (.newarray .int, 2) := by decide +kernel
theorem dX11_init_89 : decode cX11_init 89 = .ok (.putfield 38, 3) := by decide +kernel
theorem dX11_init_92 : decode cX11_init 92 = .ok (.aload_n 0, 1) := by decide +kernel
theorem dX11_init_93 : decode cX11_init 93 = .ok (.iconst 4, 1) := by decide +kernel
theorem dX11_init_94 : decode cX11_init 94 = .ok (.newarray .int, 2) := by decide +kernel
theorem dX11_init_96 : decode cX11_init 96 = .ok (.putfield 41, 3) := by decide +kernel
theorem dX11_init_99 : decode cX11_init 99 = .ok (.aload_n 0, 1) := by decide +kernel
theorem dX11_init_100 : decode cX11_init 100 = .ok (.bipush 12, 2) := by decide +kernel
theorem dX11_init_102 : decode cX11_init 102 = .ok (.newarray .int, 2) := by decide +kernel
theorem dX11_init_104 : decode cX11_init 104 = .ok (.putfield 44, 3) := by decide +kernel
theorem dX11_init_107 : decode cX11_init 107 = .ok (.aload_n 0, 1) := by decide +kernel
theorem dX11_init_108 : decode cX11_init 108 = .ok (.bipush 12, 2) := by decide +kernel
theorem dX11_init_110 : decode cX11_init 110 = .ok (.newarray .int, 2) := by decide +kernel
theorem dX11_init_112 : decode cX11_init 112 = .ok (.putfield 47, 3) := by decide +kernel
theorem dX11_init_115 : decode cX11_init 115 = .ok (.aload_n 0, 1) := by decide +kernel
theorem dX11_init_116 : decode cX11_init 116 = .ok (.sipush 729, 3) := by decide +kernel
theorem dX11_init_119 : decode cX11_init 119 = .ok (.newarray .int, 2) := by decide +kernel
theorem dX11_init_121 : decode cX11_init 121 = .ok (.putfield 50, 3) := by decide +kernel
theorem dX11_init_124 : decode cX11_init 124 = .ok (.aload_n 0, 1) := by decide +kernel
theorem dX11_init_125 : decode cX11_init 125 = .ok (.bipush 96, 2) := by decide +kernel
theorem dX11_init_127 : decode cX11_init 127 = .ok (.newarray .int, 2) := by decide +kernel
theorem dX11_init_129 : decode cX11_init 129 = .ok (.putfield 53, 3) := by decide +kernel
theorem dX11_init_132 : decode cX11_init 132 = .ok (.aload_n 0, 1) := by decide +kernel
theorem dX11_init_133 : decode cX11_init 133 = .ok (.bipush 8, 2) := by decide +kernel
theorem dX11_init_135 : decode cX11_init 135 = .ok (.newarray .int, 2) := by decide +kernel
theorem dX11_init_137 : decode cX11_init 137 = .ok (.putfield 56, 3) := by decide +kernel
theorem dX11_init_140 : decode cX11_init 140 = .ok (.aload_n 0, 1) := by decide +kernel
theorem dX11_init_141 : decode cX11_init 141 = .ok (.bipush 18, 2) := by decide +kernel
theorem dX11_init_143 : decode cX11_init 143 = .ok (.newarray .int, 2) := by decide +kernel
theorem dX11_init_145 : decode cX11_init 145 = .ok (.putfield 59, 3) := by decide +kernel
theorem dX11_init_148 : decode cX11_init 148 = .ok (.aload_n 0, 1) := by decide +kernel
theorem dX11_init_149 : decode cX11_init 149 = .ok (.bipush 12, 2) := by decide +kernel
theorem dX11_init_151 : decode cX11_init 151 = .ok (.newarray .int, 2) := by decide +kernel
theorem dX11_init_153 : decode cX11_init 153 = .ok (.putfield 62, 3) := by decide +kernel
theorem dX11_init_156 : decode cX11_init 156 = .ok (.aload_n 0, 1) := by decide +kernel
theorem dX11_init_157 : decode cX11_init 157 = .ok (.bipush 10, 2) := by decide +kernel
theorem dX11_init_159 : decode cX11_init 159 = .ok (.newarray .int, 2) := by decide +kernel
theorem dX11_init_161 : decode cX11_init 161 = .ok (.putfield 65, 3) := by decide +kernel
theorem dX11_init_164 : decode cX11_init 164 = .ok (.aload_n 0, 1) := by decide +kernel
theorem dX11_init_165 : decode cX11_init 165 = .ok (.bipush 8, 2) := by decide +kernel
theorem dX11_init_167 : decode cX11_init 167 = .ok (.newarray .int, 2) := by decide +kernel
theorem dX11_init_169 : decode cX11_init 169 = .ok (.putfield 68, 3) := by decide +kernel
theorem dX11_init_172 : decode cX11_init 172 = .ok (.aload_n 0, 1) := by decide +kernel
theorem dX11_init_173 : decode cX11_init 173 = .ok (.bipush 8, 2) := by decide +kernel
theorem dX11_init_175 : decode cX11_init 175 = .ok (.newarray .int, 2) := by decide +kernel
theorem dX11_init_177 : decode cX11_init 177 = .ok (.putfield 71, 3) := by decide +kernel
theorem dX11_init_180 : decode cX11_init 180 = .ok (.aload_n 0, 1) := by decide +kernel
theorem dX11_init_181 : decode cX11_init 181 = .ok (.iconst (-1), 1) := by decide +kernel
theorem dX11_init_182 : decode cX11_init 182 = .ok (.putfield 74, 3) := by decide +kernel
theorem dX11_init_185 : decode cX11_init 185 = .ok (.aload_n 0, 1) := by decide +kernel
theorem dX11_init_186 : decode cX11_init 186 = .ok (.sipush 600, 3) := by decide +kernel
theorem dX11_init_189 : decode cX11_init 189 = .ok (.newarray .int, 2) := by decide +kernel
theorem dX11_init_191 : decode cX11_init 191 = .ok (.putfield 77, 3) := by decide +kernel
theorem dX11_init_194 : decode cX11_init 194 = .ok (.aload_n 0, 1) := by decide +kernel
theorem dX11_init_195 : decode cX11_init 195 = .ok (.sipush 600, 3) := by decide +kernel
theorem dX11_init_198 : decode cX11_init 198 = .ok (.newarray .int, 2) := by decide +kernel
theorem dX11_init_200 : decode cX11_init 200 = .ok (.putfield 80, 3) := by decide +kernel
theorem dX11_init_203 : decode cX11_init 203 = .ok (.aload_n 0, 1) := by decide +kernel
theorem dX11_init_204 : decode cX11_init 204 = .ok (.iconst 5, 1) := by decide +kernel
theorem dX11_init_205 : decode cX11_init 205 = .ok (.newarray .int, 2) := by decide +kernel
theorem dX11_init_207 : decode cX11_init 207 = .ok (.putfield 83, 3) := by decide +kernel
theorem dX11_init_210 : decode cX11_init 210 = .ok (.aload_n 0, 1) := by decide +kernel
theorem dX11_init_211 : decode cX11_init 211 = .ok (.iconst 5, 1) := by decide +kernel
theorem dX11_init_212 : decode cX11_init 212 = .ok (.newarray .int, 2) := by decide +kernel
theorem dX11_init_214 : decode cX11_init 214 = .ok (.putfield 86, 3) := by decide +kernel
theorem dX11_init_217 : decode cX11_init 217 = .ok (.aload_n 0, 1) := by decide +kernel
theorem dX11_init_218 : decode cX11_init 218 = .ok (.iconst 5, 1) := by decide +kernel
theorem dX11_init_219 : decode cX11_init 219 = .ok (.newarray .int, 2) := by decide +kernel
theorem dX11_init_221 : decode cX11_init 221 = .ok (.putfield 89, 3) := by decide +kernel
theorem dX11_init_224 : decode cX11_init 224 = .ok (.aload_n 0, 1) := by decide +kernel
theorem dX11_init_225 : decode cX11_init 225 = .ok (.sipush 729, 3) := by decide +kernel
theorem dX11_init_228 : decode cX11_init 228 = .ok (.newarray .int, 2) := by decide +kernel
theorem dX11_init_230 : decode cX11_init 230 = .ok (.putfield 92, 3) := by decide +kernel
theorem dX11_init_233 : decode cX11_init 233 = .ok (.aload_n 0, 1) := by decide +kernel
theorem dX11_init_234 : decode cX11_init 234 = .ok (.bipush 12, 2) := by decide +kernel
theorem dX11_init_236 : decode cX11_init 236 = .ok (.newarray .int, 2) := by decide +kernel
theorem dX11_init_238 : decode cX11_init 238 = .ok (.putfield 95, 3) := by decide +kernel
theorem dX11_init_241 : decode cX11_init 241 = .ok (.aload_n 0, 1) := by decide +kernel
theorem dX11_init_242 : decode cX11_init 242 = .ok (.iconst 3, 1) := by decide +kernel
theorem dX11_init_243 : decode cX11_init 243 = .ok (.newarray .int, 2) := by decide +kernel
theorem dX11_init_245 : decode cX11_init 245 = .ok (.putfield 98, 3) := by decide +kernel
theorem dX11_init_248 : decode cX11_init 248 = .ok (.aload_n 0, 1) := by decide +kernel
theorem dX11_init_249 : decode cX11_init 249 = .ok (.bipush 12, 2) := by decide +kernel
theorem dX11_init_251 : decode cX11_init 251 = .ok (.newarray .int, 2) := by decide +kernel
theorem dX11_init_253 : decode cX11_init 253 = .ok (.putfield 101, 3) := by decide +kernel
theorem dX11_init_256 : decode cX11_init 256 = .ok (.aload_n 0, 1) := by decide +kernel
theorem dX11_init_257 : decode cX11_init 257 = .ok (.bipush 96, 2) := by decide +kernel
theorem dX11_init_259 : decode cX11_init 259 = .ok (.newarray .int, 2) := by decide +kernel
theorem dX11_init_261 : decode cX11_init 261 = .ok (.putfield 104, 3) := by decide +kernel
theorem dX11_init_264 : decode cX11_init 264 = .ok (.aload_n 0, 1) := by decide +kernel
theorem dX11_init_265 : decode cX11_init 265 = .ok (.bipush 18, 2) := by decide +kernel
theorem dX11_init_267 : decode cX11_init 267 = .ok (.newarray .int, 2) := by decide +kernel
theorem dX11_init_269 : decode cX11_init 269 = .ok (.putfield 107, 3) := by decide +kernel
theorem dX11_init_272 : decode cX11_init 272 = .ok (.aload_n 0, 1) := by decide +kernel
theorem dX11_init_273 : decode cX11_init 273 = .ok (.bipush 10, 2) := by decide +kernel
theorem dX11_init_275 : decode cX11_init 275 = .ok (.newarray .int, 2) := by decide +kernel
theorem dX11_init_277 : decode cX11_init 277 = .ok (.putfield 110, 3) := by decide +kernel
theorem dX11_init_280 : decode cX11_init 280 = .ok (.return_, 1) := by decide +kernel
theorem n_X9_1 (hb : h.1 = kdL.take 2) (hz : ∀ k, gI h 1 k = 0) (k : ∀ h', Dn h 1 2 h' → Q (.inl none) h') : WM G jX9_init [.ref 1] h Q := by
  refine WM.body (ls := [some (.ref 1)]) rfl (by decide +kernel) rfl (Nat.le_of_ble_eq_true rfl) rfl ?_
  refine s_aload_n dX9_init_0 rfl (s_objInit dX9_init_1 w_131 w_124 w_125 (Nat.le_of_ble_eq_true rfl) (Nat.le_of_ble_eq_true rfl) ?_)
  have I0 : In h 1 2 (fun o k => if o = 1 then 0 else iv o k) h := In.beg hb (fun k => by rw [hz k]; simp)
  refine s_aload_n dX9_init_4 rfl (s_sipush 400 dX9_init_5 (by decide) (w_arrK I0 dX9_init_8 dX9_init_10 (.inr (.inl ⟨rfl, rfl⟩)) w_168 (by decide) (by decide) (by decide) flX9_11 ff8_0 ⟨rfl, fun _ _ _ z => by cases z; rfl⟩ rfl rfl rfl (by decide) (by decide) (fun k => by simp [iv]) rfl (fun h1 I1 K1 => ?_)))
  refine s_aload_n dX9_init_13 rfl (s_iconst (-1) dX9_init_14 (by decide) (s_putI dX9_init_15 flX9_15 ff8_3 rfl (I1.at0 (by decide) (by decide)) ?_))
  have I2 := I1.pI (o := 1) (k := 3) (v := (-1)) (by decide)
  refine s_return dX9_init_18 rfl (k _ (In.dn (m := 2) I2 (by decide) ?_))
  intro o k h1 h2
  simp only [iv]
  repeat' split
  all_goals first | rfl | omega
theorem n_X2_3 (hb : h.1 = kdL.take 4) (hz : ∀ k, gI h 3 k = 0) (k : ∀ h', Dn h 3 10 h' → Q (.inl none) h') : WM G jX2_init [.ref 3] h Q := by
  refine WM.body (ls := [some (.ref 3)]) rfl (by decide +kernel) rfl (Nat.le_of_ble_eq_true rfl) rfl ?_
  refine s_aload_n dX2_init_0 rfl (s_objInit dX2_init_1 w_174 w_124 w_125 (Nat.le_of_ble_eq_true rfl) (Nat.le_of_ble_eq_true rfl) ?_)
  have I0 : In h 3 4 (fun _ _ => 0) h := In.beg hb (hz)
  refine s_aload_n dX2_init_4 rfl (s_iconst 4 dX2_init_5 (by decide) (w_arrK I0 dX2_init_6 dX2_init_8 (.inl ⟨rfl, rfl⟩) w_230 (by decide) (by decide) (by decide) flX2_9 ff2_0 ⟨rfl, fun _ _ _ z => by cases z; rfl⟩ rfl rfl rfl (by decide) (by decide) (fun _ => rfl) rfl (fun h1 I1 K1 => ?_)))
  refine s_aload_n dX2_init_11 rfl (s_iconst 4 dX2_init_12 (by decide) (w_arrK I1 dX2_init_13 dX2_init_15 (.inl ⟨rfl, rfl⟩) w_230 (by decide) (by decide) (by decide) flX2_15 ff2_1 ⟨rfl, fun _ _ _ z => by cases z; rfl⟩ rfl rfl rfl (by decide) (by decide) (fun _ => rfl) rfl (fun h2 I2 K2 => ?_)))
  refine s_aload_n dX2_init_18 rfl (s_iconst 4 dX2_init_19 (by decide) (w_arrK I2 dX2_init_20 dX2_init_22 (.inl ⟨rfl, rfl⟩) w_230 (by decide) (by decide) (by decide) flX2_18 ff2_2 ⟨rfl, fun _ _ _ z => by cases z; rfl⟩ rfl rfl rfl (by decide) (by decide) (fun _ => rfl) rfl (fun h3 I3 K3 => ?_)))
  refine s_aload_n dX2_init_25 rfl (s_bipush 12 dX2_init_26 (by decide) (w_arrK I3 dX2_init_28 dX2_init_30 (.inl ⟨rfl, rfl⟩) w_230 (by decide) (by decide) (by decide) flX2_21 ff2_3 ⟨rfl, fun _ _ _ z => by cases z; rfl⟩ rfl rfl rfl (by decide) (by decide) (fun _ => rfl) rfl (fun h4 I4 K4 => ?_)))
  refine s_aload_n dX2_init_33 rfl (s_iconst 4 dX2_init_34 (by decide) (w_arrK I4 dX2_init_35 dX2_init_37 (.inl ⟨rfl, rfl⟩) w_230 (by decide) (by decide) (by decide) flX2_24 ff2_6 ⟨rfl, fun _ _ _ z => by cases z; rfl⟩ rfl rfl rfl (by decide) (by decide) (fun _ => rfl) rfl (fun h5 I5 K5 => ?_)))
  refine s_aload_n dX2_init_40 rfl (s_bipush 8 dX2_init_41 (by decide) (w_arrK I5 dX2_init_43 dX2_init_45 (.inl ⟨rfl, rfl⟩) w_230 (by decide) (by decide) (by decide) flX2_27 ff2_7 ⟨rfl, fun _ _ _ z => by cases z; rfl⟩ rfl rfl rfl (by decide) (by decide) (fun _ => rfl) rfl (fun h6 I6 K6 => ?_)))
  refine s_aload_n dX2_init_48 rfl (s_sipush 364 dX2_init_49 (by decide) (w_arrK I6 dX2_init_52 dX2_init_54 (.inl ⟨rfl, rfl⟩) w_230 (by decide) (by decide) (by decide) flX2_30 ff2_8 ⟨rfl, fun _ _ _ z => by cases z; rfl⟩ rfl rfl rfl (by decide) (by decide) (fun _ => rfl) rfl (fun h7 I7 K7 => ?_)))
  refine s_aload_n dX2_init_57 rfl (s_iconst 4 dX2_init_58 (by decide) (w_arrK I7 dX2_init_59 dX2_init_61 (.inl ⟨rfl, rfl⟩) w_230 (by decide) (by decide) (by decide) flX2_33 ff2_9 ⟨rfl, fun _ _ _ z => by cases z; rfl⟩ rfl rfl rfl (by decide) (by decide) (fun _ => rfl) rfl (fun h8 I8 K8 => ?_)))
  refine s_aload_n dX2_init_64 rfl (s_iconst 4 dX2_init_65 (by decide) (w_arrK I8 dX2_init_66 dX2_init_68 (.inl ⟨rfl, rfl⟩) w_230 (by decide) (by decide) (by decide) flX2_36 ff2_10 ⟨rfl, fun _ _ _ z => by cases z; rfl⟩ rfl rfl rfl (by decide) (by decide) (fun _ => rfl) rfl (fun h9 I9 K9 => ?_)))
  refine s_aload_n dX2_init_71 rfl (s_getR (v := .ref 5) dX2_init_72 flX2_15 rfl (I9.at0 (by decide) (by decide)) (I9.2.2.2.1 1 2 rfl (by decide)) (s_iconst 2 dX2_init_75 (by decide) (s_callS (As := [.ref 5, .int 2]) dX2_init_76 rfl lsX2_39 ⟨Nat.le_of_ble_eq_true rfl, Nat.le_of_ble_eq_true rfl⟩ rfl (Nat.le_of_ble_eq_true rfl) (mF_fill (n := 4) (by decide) ?_ (fun g e1 e2 e3 e4 e5 => ?_)))))
  · rw [I9.1]
    exact tk_at (by decide) (by decide)
  have I10 : In h 3 13 (fun o k => if o = 5 ∧ k < 4 then 2 else 0) g := In.fill I9 e1 e2 e3 e4 e5 (by decide)
  refine s_return dX2_init_79 rfl (k _ (In.dn (m := 10) I10 (by decide) ?_))
  intro o k h1 h2
  simp only [iv]
  repeat' split
  all_goals first | rfl | omega
theorem n_X2_13 (hb : h.1 = kdL.take 14) (hz : ∀ k, gI h 13 k = 0) (k : ∀ h', Dn h 13 10 h' → Q (.inl none) h') : WM G jX2_init [.ref 13] h Q := by
  refine WM.body (ls := [some (.ref 13)]) rfl (by decide +kernel) rfl (Nat.le_of_ble_eq_true rfl) rfl ?_
  refine s_aload_n dX2_init_0 rfl (s_objInit dX2_init_1 w_174 w_124 w_125 (Nat.le_of_ble_eq_true rfl) (Nat.le_of_ble_eq_true rfl) ?_)
  have I0 : In h 13 14 (fun _ _ => 0) h := In.beg hb (hz)
  refine s_aload_n dX2_init_4 rfl (s_iconst 4 dX2_init_5 (by decide) (w_arrK I0 dX2_init_6 dX2_init_8 (.inl ⟨rfl, rfl⟩) w_230 (by decide) (by decide) (by decide) flX2_9 ff2_0 ⟨rfl, fun _ _ _ z => by cases z; rfl⟩ rfl rfl rfl (by decide) (by decide) (fun _ => rfl) rfl (fun h1 I1 K1 => ?_)))
  refine s_aload_n dX2_init_11 rfl (s_iconst 4 dX2_init_12 (by decide) (w_arrK I1 dX2_init_13 dX2_init_15 (.inl ⟨rfl, rfl⟩) w_230 (by decide) (by decide) (by decide) flX2_15 ff2_1 ⟨rfl, fun _ _ _ z => by cases z; rfl⟩ rfl rfl rfl (by decide) (by decide) (fun _ => rfl) rfl (fun h2 I2 K2 => ?_)))
  refine s_aload_n dX2_init_18 rfl (s_iconst 4 dX2_init_19 (by decide) (w_arrK I2 dX2_init_20 dX2_init_22 (.inl ⟨rfl, rfl⟩) w_230 (by decide) (by decide) (by decide) flX2_18 ff2_2 ⟨rfl, fun _ _ _ z => by cases z; rfl⟩ rfl rfl rfl (by decide) (by decide) (fun _ => rfl) rfl (fun h3 I3 K3 => ?_)))
  refine s_aload_n dX2_init_25 rfl (s_bipush 12 dX2_init_26 (by decide) (w_arrK I3 dX2_init_28 dX2_init_30 (.inl ⟨rfl, rfl⟩) w_230 (by decide) (by decide) (by decide) flX2_21 ff2_3 ⟨rfl, fun _ _ _ z => by cases z; rfl⟩ rfl rfl rfl (by decide) (by decide) (fun _ => rfl) rfl (fun h4 I4 K4 => ?_)))
  refine s_aload_n dX2_init_33 rfl (s_iconst 4 dX2_init_34 (by decide) (w_arrK I4 dX2_init_35 dX2_init_37 (.inl ⟨rfl, rfl⟩) w_230 (by decide) (by decide) (by decide) flX2_24 ff2_6 ⟨rfl, fun _ _ _ z => by cases z; rfl⟩ rfl rfl rfl (by decide) (by decide) (fun _ => rfl) rfl (fun h5 I5 K5 => ?_)))
  refine s_aload_n dX2_init_40 rfl (s_bipush 8 dX2_init_41 (by decide) (w_arrK I5 dX2_init_43 dX2_init_45 (.inl ⟨rfl, rfl⟩) w_230 (by decide) (by decide) (by decide) flX2_27 ff2_7 ⟨rfl, fun _ _ _ z => by cases z; rfl⟩ rfl rfl rfl (by decide) (by decide) (fun _ => rfl) rfl (fun h6 I6 K6 => ?_)))
  refine s_aload_n dX2_init_48 rfl (s_sipush 364 dX2_init_49 (by decide) (w_arrK I6 dX2_init_52 dX2_init_54 (.inl ⟨rfl, rfl⟩) w_230 (by decide) (by decide) (by decide) flX2_30 ff2_8 ⟨rfl, fun _ _ _ z => by cases z; rfl⟩ rfl rfl rfl (by decide) (by decide) (fun _ => rfl) rfl (fun h7 I7 K7 => ?_)))
  refine s_aload_n dX2_init_57 rfl (s_iconst 4 dX2_init_58 (by decide) (w_arrK I7 dX2_init_59 dX2_init_61 (.inl ⟨rfl, rfl⟩) w_230 (by decide) (by decide) (by decide) flX2_33 ff2_9 ⟨rfl, fun _ _ _ z => by cases z; rfl⟩ rfl rfl rfl (by decide) (by decide) (fun _ => rfl) rfl (fun h8 I8 K8 => ?_)))
  refine s_aload_n dX2_init_64 rfl (s_iconst 4 dX2_init_65 (by decide) (w_arrK I8 dX2_init_66 dX2_init_68 (.inl ⟨rfl, rfl⟩) w_230 (by decide) (by decide) (by decide) flX2_36 ff2_10 ⟨rfl, fun _ _ _ z => by cases z; rfl⟩ rfl rfl rfl (by decide) (by decide) (fun _ => rfl) rfl (fun h9 I9 K9 => ?_)))
  refine s_aload_n dX2_init_71 rfl (s_getR (v := .ref 15) dX2_init_72 flX2_15 rfl (I9.at0 (by decide) (by decide)) (I9.2.2.2.1 1 2 rfl (by decide)) (s_iconst 2 dX2_init_75 (by decide) (s_callS (As := [.ref 15, .int 2]) dX2_init_76 rfl lsX2_39 ⟨Nat.le_of_ble_eq_true rfl, Nat.le_of_ble_eq_true rfl⟩ rfl (Nat.le_of_ble_eq_true rfl) (mF_fill (n := 4) (by decide) ?_ (fun g e1 e2 e3 e4 e5 => ?_)))))
  · rw [I9.1]
    exact tk_at (by decide) (by decide)
  have I10 : In h 13 23 (fun o k => if o = 15 ∧ k < 4 then 2 else 0) g := In.fill I9 e1 e2 e3 e4 e5 (by decide)
  refine s_return dX2_init_79 rfl (k _ (In.dn (m := 10) I10 (by decide) ?_))
  intro o k h1 h2
  simp only [iv]
  repeat' split
  all_goals first | rfl | omega
theorem n_X2_23 (hb : h.1 = kdL.take 24) (hz : ∀ k, gI h 23 k = 0) (k : ∀ h', Dn h 23 10 h' → Q (.inl none) h') : WM G jX2_init [.ref 23] h Q := by
  refine WM.body (ls := [some (.ref 23)]) rfl (by decide +kernel) rfl (Nat.le_of_ble_eq_true rfl) rfl ?_
  refine s_aload_n dX2_init_0 rfl (s_objInit dX2_init_1 w_174 w_124 w_125 (Nat.le_of_ble_eq_true rfl) (Nat.le_of_ble_eq_true rfl) ?_)
  have I0 : In h 23 24 (fun _ _ => 0) h := In.beg hb (hz)
  refine s_aload_n dX2_init_4 rfl (s_iconst 4 dX2_init_5 (by decide) (w_arrK I0 dX2_init_6 dX2_init_8 (.inl ⟨rfl, rfl⟩) w_230 (by decide) (by decide) (by decide) flX2_9 ff2_0 ⟨rfl, fun _ _ _ z => by cases z; rfl⟩ rfl rfl rfl (by decide) (by decide) (fun _ => rfl) rfl (fun h1 I1 K1 => ?_)))
  refine s_aload_n dX2_init_11 rfl (s_iconst 4 dX2_init_12 (by decide) (w_arrK I1 dX2_init_13 dX2_init_15 (.inl ⟨rfl, rfl⟩) w_230 (by decide) (by decide) (by decide) flX2_15 ff2_1 ⟨rfl, fun _ _ _ z => by cases z; rfl⟩ rfl rfl rfl (by decide) (by decide) (fun _ => rfl) rfl (fun h2 I2 K2 => ?_)))
  refine s_aload_n dX2_init_18 rfl (s_iconst 4 dX2_init_19 (by decide) (w_arrK I2 dX2_init_20 dX2_init_22 (.inl ⟨rfl, rfl⟩) w_230 (by decide) (by decide) (by decide) flX2_18 ff2_2 ⟨rfl, fun _ _ _ z => by cases z; rfl⟩ rfl rfl rfl (by decide) (by decide) (fun _ => rfl) rfl (fun h3 I3 K3 => ?_)))
  refine s_aload_n dX2_init_25 rfl (s_bipush 12 dX2_init_26 (by decide) (w_arrK I3 dX2_init_28 dX2_init_30 (.inl ⟨rfl, rfl⟩) w_230 (by decide) (by decide) (by decide) flX2_21 ff2_3 ⟨rfl, fun _ _ _ z => by cases z; rfl⟩ rfl rfl rfl (by decide) (by decide) (fun _ => rfl) rfl (fun h4 I4 K4 => ?_)))
  refine s_aload_n dX2_init_33 rfl (s_iconst 4 dX2_init_34 (by decide) (w_arrK I4 dX2_init_35 dX2_init_37 (.inl ⟨rfl, rfl⟩) w_230 (by decide) (by decide) (by decide) flX2_24 ff2_6 ⟨rfl, fun _ _ _ z => by cases z; rfl⟩ rfl rfl rfl (by decide) (by decide) (fun _ => rfl) rfl (fun h5 I5 K5 => ?_)))
  refine s_aload_n dX2_init_40 rfl (s_bipush 8 dX2_init_41 (by decide) (w_arrK I5 dX2_init_43 dX2_init_45 (.inl ⟨rfl, rfl⟩) w_230 (by decide) (by decide) (by decide) flX2_27 ff2_7 ⟨rfl, fun _ _ _ z => by cases z; rfl⟩ rfl rfl rfl (by decide) (by decide) (fun _ => rfl) rfl (fun h6 I6 K6 => ?_)))
  refine s_aload_n dX2_init_48 rfl (s_sipush 364 dX2_init_49 (by decide) (w_arrK I6 dX2_init_52 dX2_init_54 (.inl ⟨rfl, rfl⟩) w_230 (by decide) (by decide) (by decide) flX2_30 ff2_8 ⟨rfl, fun _ _ _ z => by cases z; rfl⟩ rfl rfl rfl (by decide) (by decide) (fun _ => rfl) rfl (fun h7 I7 K7 => ?_)))
  refine s_aload_n dX2_init_57 rfl (s_iconst 4 dX2_init_58 (by decide) (w_arrK I7 dX2_init_59 dX2_init_61 (.inl ⟨rfl, rfl⟩) w_230 (by decide) (by decide) (by decide) flX2_33 ff2_9 ⟨rfl, fun _ _ _ z => by cases z; rfl⟩ rfl rfl rfl (by decide) (by decide) (fun _ => rfl) rfl (fun h8 I8 K8 => ?_)))
  refine s_aload_n dX2_init_64 rfl (s_iconst 4 dX2_init_65 (by decide) (w_arrK I8 dX2_init_66 dX2_init_68 (.inl ⟨rfl, rfl⟩) w_230 (by decide) (by decide) (by decide) flX2_36 ff2_10 ⟨rfl, fun _ _ _ z => by cases z; rfl⟩ rfl rfl rfl (by decide) (by decide) (fun _ => rfl) rfl (fun h9 I9 K9 => ?_)))
  refine s_aload_n dX2_init_71 rfl (s_getR (v := .ref 25) dX2_init_72 flX2_15 rfl (I9.at0 (by decide) (by decide)) (I9.2.2.2.1 1 2 rfl (by decide)) (s_iconst 2 dX2_init_75 (by decide) (s_callS (As := [.ref 25, .int 2]) dX2_init_76 rfl lsX2_39 ⟨Nat.le_of_ble_eq_true rfl, Nat.le_of_ble_eq_true rfl⟩ rfl (Nat.le_of_ble_eq_true rfl) (mF_fill (n := 4) (by decide) ?_ (fun g e1 e2 e3 e4 e5 => ?_)))))
  · rw [I9.1]
    exact tk_at (by decide) (by decide)
  have I10 : In h 23 33 (fun o k => if o = 25 ∧ k < 4 then 2 else 0) g := In.fill I9 e1 e2 e3 e4 e5 (by decide)
  refine s_return dX2_init_79 rfl (k _ (In.dn (m := 10) I10 (by decide) ?_))
  intro o k h1 h2
  simp only [iv]
  repeat' split
  all_goals first | rfl | omega
theorem n_X2_56 (hb : h.1 = kdL.take 57) (hz : ∀ k, gI h 56 k = 0) (k : ∀ h', Dn h 56 10 h' → Q (.inl none) h') : WM G jX2_init [.ref 56] h Q := by
  refine WM.body (ls := [some (.ref 56)]) rfl (by decide +kernel) rfl (Nat.le_of_ble_eq_true rfl) rfl ?_
  refine s_aload_n dX2_init_0 rfl (s_objInit dX2_init_1 w_174 w_124 w_125 (Nat.le_of_ble_eq_true rfl) (Nat.le_of_ble_eq_true rfl) ?_)
  have I0 : In h 56 57 (fun _ _ => 0) h := In.beg hb (hz)
  refine s_aload_n dX2_init_4 rfl (s_iconst 4 dX2_init_5 (by decide) (w_arrK I0 dX2_init_6 dX2_init_8 (.inl ⟨rfl, rfl⟩) w_230 (by decide) (by decide) (by decide) flX2_9 ff2_0 ⟨rfl, fun _ _ _ z => by cases z; rfl⟩ rfl rfl rfl (by decide) (by decide) (fun _ => rfl) rfl (fun h1 I1 K1 => ?_)))
  refine s_aload_n dX2_init_11 rfl (s_iconst 4 dX2_init_12 (by decide) (w_arrK I1 dX2_init_13 dX2_init_15 (.inl ⟨rfl, rfl⟩) w_230 (by decide) (by decide) (by decide) flX2_15 ff2_1 ⟨rfl, fun _ _ _ z => by cases z; rfl⟩ rfl rfl rfl (by decide) (by decide) (fun _ => rfl) rfl (fun h2 I2 K2 => ?_)))
  refine s_aload_n dX2_init_18 rfl (s_iconst 4 dX2_init_19 (by decide) (w_arrK I2 dX2_init_20 dX2_init_22 (.inl ⟨rfl, rfl⟩) w_230 (by decide) (by decide) (by decide) flX2_18 ff2_2 ⟨rfl, fun _ _ _ z => by cases z; rfl⟩ rfl rfl rfl (by decide) (by decide) (fun _ => rfl) rfl (fun h3 I3 K3 => ?_)))
  refine s_aload_n dX2_init_25 rfl (s_bipush 12 dX2_init_26 (by decide) (w_arrK I3 dX2_init_28 dX2_init_30 (.inl ⟨rfl, rfl⟩) w_230 (by decide) (by decide) (by decide) flX2_21 ff2_3 ⟨rfl, fun _ _ _ z => by cases z; rfl⟩ rfl rfl rfl (by decide) (by decide) (fun _ => rfl) rfl (fun h4 I4 K4 => ?_)))
  refine s_aload_n dX2_init_33 rfl (s_iconst 4 dX2_init_34 (by decide) (w_arrK I4 dX2_init_35 dX2_init_37 (.inl ⟨rfl, rfl⟩) w_230 (by decide) (by decide) (by decide) flX2_24 ff2_6 ⟨rfl, fun _ _ _ z => by cases z; rfl⟩ rfl rfl rfl (by decide) (by decide) (fun _ => rfl) rfl (fun h5 I5 K5 => ?_)))
  refine s_aload_n dX2_init_40 rfl (s_bipush 8 dX2_init_41 (by decide) (w_arrK I5 dX2_init_43 dX2_init_45 (.inl ⟨rfl, rfl⟩) w_230 (by decide) (by decide) (by decide) flX2_27 ff2_7 ⟨rfl, fun _ _ _ z => by cases z; rfl⟩ rfl rfl rfl (by decide) (by decide) (fun _ => rfl) rfl (fun h6 I6 K6 => ?_)))
  refine s_aload_n dX2_init_48 rfl (s_sipush 364 dX2_init_49 (by decide) (w_arrK I6 dX2_init_52 dX2_init_54 (.inl ⟨rfl, rfl⟩) w_230 (by decide) (by decide) (by decide) flX2_30 ff2_8 ⟨rfl, fun _ _ _ z => by cases z; rfl⟩ rfl rfl rfl (by decide) (by decide) (fun _ => rfl) rfl (fun h7 I7 K7 => ?_)))
  refine s_aload_n dX2_init_57 rfl (s_iconst 4 dX2_init_58 (by decide) (w_arrK I7 dX2_init_59 dX2_init_61 (.inl ⟨rfl, rfl⟩) w_230 (by decide) (by decide) (by decide) flX2_33 ff2_9 ⟨rfl, fun _ _ _ z => by cases z; rfl⟩ rfl rfl rfl (by decide) (by decide) (fun _ => rfl) rfl (fun h8 I8 K8 => ?_)))
  refine s_aload_n dX2_init_64 rfl (s_iconst 4 dX2_init_65 (by decide) (w_arrK I8 dX2_init_66 dX2_init_68 (.inl ⟨rfl, rfl⟩) w_230 (by decide) (by decide) (by decide) flX2_36 ff2_10 ⟨rfl, fun _ _ _ z => by cases z; rfl⟩ rfl rfl rfl (by decide) (by decide) (fun _ => rfl) rfl (fun h9 I9 K9 => ?_)))
  refine s_aload_n dX2_init_71 rfl (s_getR (v := .ref 58) dX2_init_72 flX2_15 rfl (I9.at0 (by decide) (by decide)) (I9.2.2.2.1 1 2 rfl (by decide)) (s_iconst 2 dX2_init_75 (by decide) (s_callS (As := [.ref 58, .int 2]) dX2_init_76 rfl lsX2_39 ⟨Nat.le_of_ble_eq_true rfl, Nat.le_of_ble_eq_true rfl⟩ rfl (Nat.le_of_ble_eq_true rfl) (mF_fill (n := 4) (by decide) ?_ (fun g e1 e2 e3 e4 e5 => ?_)))))
  · rw [I9.1]
    exact tk_at (by decide) (by decide)
  have I10 : In h 56 66 (fun o k => if o = 58 ∧ k < 4 then 2 else 0) g := In.fill I9 e1 e2 e3 e4 e5 (by decide)
  refine s_return dX2_init_79 rfl (k _ (In.dn (m := 10) I10 (by decide) ?_))
  intro o k h1 h2
  simp only [iv]
  repeat' split
  all_goals first | rfl | omega
theorem n_X3_33 (hb : h.1 = kdL.take 34) (hz : ∀ k, gI h 33 k = 0) (k : ∀ h', Dn h 33 5 h' → Q (.inl none) h') : WM G jX3_init [.ref 33] h Q := by
  refine WM.body (ls := [some (.ref 33)]) rfl (by decide +kernel) rfl (Nat.le_of_ble_eq_true rfl) rfl ?_
  refine s_aload_n dX3_init_0 rfl (s_objInit dX3_init_1 w_236 w_124 w_125 (Nat.le_of_ble_eq_true rfl) (Nat.le_of_ble_eq_true rfl) ?_)
  have I0 : In h 33 34 (fun o k => if o = 33 then 0 else iv o k) h := In.beg hb (fun k => by rw [hz k]; simp)
  refine s_aload_n dX3_init_4 rfl (s_bipush 12 dX3_init_5 (by decide) (w_arrK I0 dX3_init_7 dX3_init_9 (.inl ⟨rfl, rfl⟩) w_230 (by decide) (by decide) (by decide) flX3_9 ff3_0 ⟨rfl, fun _ _ _ z => by cases z; rfl⟩ rfl rfl rfl (by decide) (by decide) (fun k => by simp [iv]) rfl (fun h1 I1 K1 => ?_)))
  refine s_aload_n dX3_init_12 rfl (s_bipush 96 dX3_init_13 (by decide) (w_arrK I1 dX3_init_15 dX3_init_17 (.inl ⟨rfl, rfl⟩) w_230 (by decide) (by decide) (by decide) flX3_15 ff3_2 ⟨rfl, fun _ _ _ z => by cases z; rfl⟩ rfl rfl rfl (by decide) (by decide) (fun k => by simp [iv]) rfl (fun h2 I2 K2 => ?_)))
  refine s_aload_n dX3_init_20 rfl (s_bipush 18 dX3_init_21 (by decide) (w_arrK I2 dX3_init_23 dX3_init_25 (.inl ⟨rfl, rfl⟩) w_230 (by decide) (by decide) (by decide) flX3_18 ff3_4 ⟨rfl, fun _ _ _ z => by cases z; rfl⟩ rfl rfl rfl (by decide) (by decide) (fun k => by simp [iv]) rfl (fun h3 I3 K3 => ?_)))
  refine s_aload_n dX3_init_28 rfl (s_bipush 10 dX3_init_29 (by decide) (w_arrK I3 dX3_init_31 dX3_init_33 (.inl ⟨rfl, rfl⟩) w_230 (by decide) (by decide) (by decide) flX3_21 ff3_6 ⟨rfl, fun _ _ _ z => by cases z; rfl⟩ rfl rfl rfl (by decide) (by decide) (fun k => by simp [iv]) rfl (fun h4 I4 K4 => ?_)))
  refine s_return dX3_init_36 rfl (k _ (In.dn (m := 5) I4 (by decide) ?_))
  intro o k h1 h2
  simp only [iv]
  repeat' split
  all_goals first | rfl | omega
theorem n_X3_38 (hb : h.1 = kdL.take 39) (hz : ∀ k, gI h 38 k = 0) (k : ∀ h', Dn h 38 5 h' → Q (.inl none) h') : WM G jX3_init [.ref 38] h Q := by
  refine WM.body (ls := [some (.ref 38)]) rfl (by decide +kernel) rfl (Nat.le_of_ble_eq_true rfl) rfl ?_
  refine s_aload_n dX3_init_0 rfl (s_objInit dX3_init_1 w_236 w_124 w_125 (Nat.le_of_ble_eq_true rfl) (Nat.le_of_ble_eq_true rfl) ?_)
  have I0 : In h 38 39 (fun o k => if o = 38 then 0 else iv o k) h := In.beg hb (fun k => by rw [hz k]; simp)
  refine s_aload_n dX3_init_4 rfl (s_bipush 12 dX3_init_5 (by decide) (w_arrK I0 dX3_init_7 dX3_init_9 (.inl ⟨rfl, rfl⟩) w_230 (by decide) (by decide) (by decide) flX3_9 ff3_0 ⟨rfl, fun _ _ _ z => by cases z; rfl⟩ rfl rfl rfl (by decide) (by decide) (fun k => by simp [iv]) rfl (fun h1 I1 K1 => ?_)))
  refine s_aload_n dX3_init_12 rfl (s_bipush 96 dX3_init_13 (by decide) (w_arrK I1 dX3_init_15 dX3_init_17 (.inl ⟨rfl, rfl⟩) w_230 (by decide) (by decide) (by decide) flX3_15 ff3_2 ⟨rfl, fun _ _ _ z => by cases z; rfl⟩ rfl rfl rfl (by decide) (by decide) (fun k => by simp [iv]) rfl (fun h2 I2 K2 => ?_)))
  refine s_aload_n dX3_init_20 rfl (s_bipush 18 dX3_init_21 (by decide) (w_arrK I2 dX3_init_23 dX3_init_25 (.inl ⟨rfl, rfl⟩) w_230 (by decide) (by decide) (by decide) flX3_18 ff3_4 ⟨rfl, fun _ _ _ z => by cases z; rfl⟩ rfl rfl rfl (by decide) (by decide) (fun k => by simp [iv]) rfl (fun h3 I3 K3 => ?_)))
  refine s_aload_n dX3_init_28 rfl (s_bipush 10 dX3_init_29 (by decide) (w_arrK I3 dX3_init_31 dX3_init_33 (.inl ⟨rfl, rfl⟩) w_230 (by decide) (by decide) (by decide) flX3_21 ff3_6 ⟨rfl, fun _ _ _ z => by cases z; rfl⟩ rfl rfl rfl (by decide) (by decide) (fun k => by simp [iv]) rfl (fun h4 I4 K4 => ?_)))
  refine s_return dX3_init_36 rfl (k _ (In.dn (m := 5) I4 (by decide) ?_))
  intro o k h1 h2
  simp only [iv]
  repeat' split
  all_goals first | rfl | omega
theorem n_X7_43 (hb : h.1 = kdL.take 44) (hz : ∀ k, gI h 43 k = 0) (k : ∀ h', Dn h 43 6 h' → Q (.inl none) h') : WM G jX7_init [.ref 43] h Q := by
  refine WM.body (ls := [some (.ref 43)]) rfl (by decide +kernel) rfl (Nat.le_of_ble_eq_true rfl) rfl ?_
  refine s_aload_n dX7_init_0 rfl (s_objInit dX7_init_1 w_277 w_124 w_125 (Nat.le_of_ble_eq_true rfl) (Nat.le_of_ble_eq_true rfl) ?_)
  have I0 : In h 43 44 (fun o k => if o = 43 then 0 else iv o k) h := In.beg hb (fun k => by rw [hz k]; simp)
  refine s_aload_n dX7_init_4 rfl (s_bipush 100 dX7_init_5 (by decide) (w_arrK I0 dX7_init_7 dX7_init_9 (.inl ⟨rfl, rfl⟩) w_230 (by decide) (by decide) (by decide) flX7_13 ff7_0 ⟨rfl, fun _ _ _ z => by cases z; rfl⟩ rfl rfl rfl (by decide) (by decide) (fun k => by simp [iv]) rfl (fun h1 I1 K1 => ?_)))
  refine s_aload_n dX7_init_12 rfl (s_bipush 100 dX7_init_13 (by decide) (w_arrK I1 dX7_init_15 dX7_init_17 (.inl ⟨rfl, rfl⟩) w_230 (by decide) (by decide) (by decide) flX7_17 ff7_1 ⟨rfl, fun _ _ _ z => by cases z; rfl⟩ rfl rfl rfl (by decide) (by decide) (fun k => by simp [iv]) rfl (fun h2 I2 K2 => ?_)))
  refine s_aload_n dX7_init_20 rfl (s_bipush 100 dX7_init_21 (by decide) (w_arrK I2 dX7_init_23 dX7_init_25 (.inl ⟨rfl, rfl⟩) w_230 (by decide) (by decide) (by decide) flX7_20 ff7_2 ⟨rfl, fun _ _ _ z => by cases z; rfl⟩ rfl rfl rfl (by decide) (by decide) (fun k => by simp [iv]) rfl (fun h3 I3 K3 => ?_)))
  refine s_aload_n dX7_init_28 rfl (s_bipush 100 dX7_init_29 (by decide) (w_arrK I3 dX7_init_31 dX7_init_33 (.inl ⟨rfl, rfl⟩) w_230 (by decide) (by decide) (by decide) flX7_23 ff7_3 ⟨rfl, fun _ _ _ z => by cases z; rfl⟩ rfl rfl rfl (by decide) (by decide) (fun k => by simp [iv]) rfl (fun h4 I4 K4 => ?_)))
  refine s_aload_n dX7_init_36 rfl (s_iconst 5 dX7_init_37 (by decide) (w_arrK I4 dX7_init_38 dX7_init_40 (.inl ⟨rfl, rfl⟩) w_230 (by decide) (by decide) (by decide) flX7_26 ff7_5 ⟨rfl, fun _ _ _ z => by cases z; rfl⟩ rfl rfl rfl (by decide) (by decide) (fun k => by simp [iv]) rfl (fun h5 I5 K5 => ?_)))
  refine s_return dX7_init_43 rfl (k _ (In.dn (m := 6) I5 (by decide) ?_))
  intro o k h1 h2
  simp only [iv]
  repeat' split
  all_goals first | rfl | omega
theorem n_X7_49 (hb : h.1 = kdL.take 50) (hz : ∀ k, gI h 49 k = 0) (k : ∀ h', Dn h 49 6 h' → Q (.inl none) h') : WM G jX7_init [.ref 49] h Q := by
  refine WM.body (ls := [some (.ref 49)]) rfl (by decide +kernel) rfl (Nat.le_of_ble_eq_true rfl) rfl ?_
  refine s_aload_n dX7_init_0 rfl (s_objInit dX7_init_1 w_277 w_124 w_125 (Nat.le_of_ble_eq_true rfl) (Nat.le_of_ble_eq_true rfl) ?_)
  have I0 : In h 49 50 (fun o k => if o = 49 then 0 else iv o k) h := In.beg hb (fun k => by rw [hz k]; simp)
  refine s_aload_n dX7_init_4 rfl (s_bipush 100 dX7_init_5 (by decide) (w_arrK I0 dX7_init_7 dX7_init_9 (.inl ⟨rfl, rfl⟩) w_230 (by decide) (by decide) (by decide) flX7_13 ff7_0 ⟨rfl, fun _ _ _ z => by cases z; rfl⟩ rfl rfl rfl (by decide) (by decide) (fun k => by simp [iv]) rfl (fun h1 I1 K1 => ?_)))
  refine s_aload_n dX7_init_12 rfl (s_bipush 100 dX7_init_13 (by decide) (w_arrK I1 dX7_init_15 dX7_init_17 (.inl ⟨rfl, rfl⟩) w_230 (by decide) (by decide) (by decide) flX7_17 ff7_1 ⟨rfl, fun _ _ _ z => by cases z; rfl⟩ rfl rfl rfl (by decide) (by decide) (fun k => by simp [iv]) rfl (fun h2 I2 K2 => ?_)))
  refine s_aload_n dX7_init_20 rfl (s_bipush 100 dX7_init_21 (by decide) (w_arrK I2 dX7_init_23 dX7_init_25 (.inl ⟨rfl, rfl⟩) w_230 (by decide) (by decide) (by decide) flX7_20 ff7_2 ⟨rfl, fun _ _ _ z => by cases z; rfl⟩ rfl rfl rfl (by decide) (by decide) (fun k => by simp [iv]) rfl (fun h3 I3 K3 => ?_)))
  refine s_aload_n dX7_init_28 rfl (s_bipush 100 dX7_init_29 (by decide) (w_arrK I3 dX7_init_31 dX7_init_33 (.inl ⟨rfl, rfl⟩) w_230 (by decide) (by decide) (by decide) flX7_23 ff7_3 ⟨rfl, fun _ _ _ z => by cases z; rfl⟩ rfl rfl rfl (by decide) (by decide) (fun k => by simp [iv]) rfl (fun h4 I4 K4 => ?_)))
  refine s_aload_n dX7_init_36 rfl (s_iconst 5 dX7_init_37 (by decide) (w_arrK I4 dX7_init_38 dX7_init_40 (.inl ⟨rfl, rfl⟩) w_230 (by decide) (by decide) (by decide) flX7_26 ff7_5 ⟨rfl, fun _ _ _ z => by cases z; rfl⟩ rfl rfl rfl (by decide) (by decide) (fun k => by simp [iv]) rfl (fun h5 I5 K5 => ?_)))
  refine s_return dX7_init_43 rfl (k _ (In.dn (m := 6) I5 (by decide) ?_))
  intro o k h1 h2
  simp only [iv]
  repeat' split
  all_goals first | rfl | omega
theorem n_X4_68 (hb : h.1 = kdL.take 69) (hz : ∀ k, gI h 68 k = 0) (k : ∀ h', Dn h 68 3 h' → Q (.inl none) h') : WM G jX4_init [.ref 68] h Q := by
  refine WM.body (ls := [some (.ref 68)]) rfl (by decide +kernel) rfl (Nat.le_of_ble_eq_true rfl) rfl ?_
  refine s_aload_n dX4_init_0 rfl (s_objInit dX4_init_1 w_352 w_124 w_125 (Nat.le_of_ble_eq_true rfl) (Nat.le_of_ble_eq_true rfl) ?_)
  have I0 : In h 68 69 (fun o k => if o = 68 then 0 else iv o k) h := In.beg hb (fun k => by rw [hz k]; simp)
  refine s_aload_n dX4_init_4 rfl (s_iconst 4 dX4_init_5 (by decide) (w_arrK I0 dX4_init_6 dX4_init_8 (.inl ⟨rfl, rfl⟩) w_230 (by decide) (by decide) (by decide) flX4_9 ff4_0 ⟨rfl, fun _ _ _ z => by cases z; rfl⟩ rfl rfl rfl (by decide) (by decide) (fun k => by simp [iv]) rfl (fun h1 I1 K1 => ?_)))
  refine s_aload_n dX4_init_11 rfl (s_iconst 4 dX4_init_12 (by decide) (w_arrK I1 dX4_init_13 dX4_init_15 (.inl ⟨rfl, rfl⟩) w_230 (by decide) (by decide) (by decide) flX4_15 ff4_1 ⟨rfl, fun _ _ _ z => by cases z; rfl⟩ rfl rfl rfl (by decide) (by decide) (fun k => by simp [iv]) rfl (fun h2 I2 K2 => ?_)))
  refine s_return dX4_init_18 rfl (k _ (In.dn (m := 3) I2 (by decide) ?_))
  intro o k h1 h2
  simp only [iv]
  repeat' split
  all_goals first | rfl | omega
theorem n_X1_71 (hb : h.1 = kdL.take 72) (hz : ∀ k, gI h 71 k = 0) (k : ∀ h', Dn h 71 4 h' → Q (.inl none) h') : WM G jX1_init [.ref 71] h Q := by
  refine WM.body (ls := [some (.ref 71)]) rfl (by decide +kernel) rfl (Nat.le_of_ble_eq_true rfl) rfl ?_
  refine s_aload_n dX1_init_0 rfl (s_objInit dX1_init_1 w_365 w_124 w_125 (Nat.le_of_ble_eq_true rfl) (Nat.le_of_ble_eq_true rfl) ?_)
  have I0 : In h 71 72 (fun o k => if o = 71 then 0 else iv o k) h := In.beg hb (fun k => by rw [hz k]; simp)
  refine s_aload_n dX1_init_4 rfl (s_sipush 144 dX1_init_5 (by decide) (w_arrK I0 dX1_init_8 dX1_init_10 (.inl ⟨rfl, rfl⟩) w_230 (by decide) (by decide) (by decide) flX1_11 ff1_8 ⟨rfl, fun _ _ _ z => by cases z; rfl⟩ rfl rfl rfl (by decide) (by decide) (fun k => by simp [iv]) rfl (fun h1 I1 K1 => ?_)))
  refine s_aload_n dX1_init_13 rfl (s_sipush 432 dX1_init_14 (by decide) (w_arrK I1 dX1_init_17 dX1_init_19 (.inl ⟨rfl, rfl⟩) w_230 (by decide) (by decide) (by decide) flX1_15 ff1_9 ⟨rfl, fun _ _ _ z => by cases z; rfl⟩ rfl rfl rfl (by decide) (by decide) (fun k => by simp [iv]) rfl (fun h2 I2 K2 => ?_)))
  refine s_aload_n dX1_init_22 rfl (s_bipush 12 dX1_init_23 (by decide) (w_arrK I2 dX1_init_25 dX1_init_27 (.inl ⟨rfl, rfl⟩) w_230 (by decide) (by decide) (by decide) flX1_18 ff1_10 ⟨rfl, fun _ _ _ z => by cases z; rfl⟩ rfl rfl rfl (by decide) (by decide) (fun k => by simp [iv]) rfl (fun h3 I3 K3 => ?_)))
  refine s_return dX1_init_30 rfl (k _ (In.dn (m := 4) I3 (by decide) ?_))
  intro o k h1 h2
  simp only [iv]
  repeat' split
  all_goals first | rfl | omega
theorem n_X0_75 (hb : h.1 = kdL.take 76) (hz : ∀ k, gI h 75 k = 0) (k : ∀ h', Dn h 75 5 h' → Q (.inl none) h') : WM G jX0_init [.ref 75] h Q := by
  refine WM.body (ls := [some (.ref 75)]) rfl (by decide +kernel) rfl (Nat.le_of_ble_eq_true rfl) rfl ?_
  refine s_aload_n dX0_init_0 rfl (s_objInit dX0_init_1 w_413 w_124 w_125 (Nat.le_of_ble_eq_true rfl) (Nat.le_of_ble_eq_true rfl) ?_)
  have I0 : In h 75 76 (fun o k => if o = 75 then 0 else iv o k) h := In.beg hb (fun k => by rw [hz k]; simp)
  refine s_aload_n dX0_init_4 rfl (s_bipush 8 dX0_init_5 (by decide) (w_arrK I0 dX0_init_7 dX0_init_9 (.inl ⟨rfl, rfl⟩) w_230 (by decide) (by decide) (by decide) flX0_9 ff0_0 ⟨rfl, fun _ _ _ z => by cases z; rfl⟩ rfl rfl rfl (by decide) (by decide) (fun k => by simp [iv]) rfl (fun h1 I1 K1 => ?_)))
  refine s_aload_n dX0_init_12 rfl (s_bipush 80 dX0_init_13 (by decide) (w_arrK I1 dX0_init_15 dX0_init_17 (.inl ⟨rfl, rfl⟩) w_230 (by decide) (by decide) (by decide) flX0_15 ff0_3 ⟨rfl, fun _ _ _ z => by cases z; rfl⟩ rfl rfl rfl (by decide) (by decide) (fun k => by simp [iv]) rfl (fun h2 I2 K2 => ?_)))
  refine s_aload_n dX0_init_20 rfl (s_sipush 2048 dX0_init_21 (by decide) (w_arrK I2 dX0_init_24 dX0_init_26 (.inl ⟨rfl, rfl⟩) w_230 (by decide) (by decide) (by decide) flX0_18 ff0_4 ⟨rfl, fun _ _ _ z => by cases z; rfl⟩ rfl rfl rfl (by decide) (by decide) (fun k => by simp [iv]) rfl (fun h3 I3 K3 => ?_)))
  refine s_aload_n dX0_init_29 rfl (s_sipush 2048 dX0_init_30 (by decide) (w_arrK I3 dX0_init_33 dX0_init_35 (.inl ⟨rfl, rfl⟩) w_230 (by decide) (by decide) (by decide) flX0_21 ff0_5 ⟨rfl, fun _ _ _ z => by cases z; rfl⟩ rfl rfl rfl (by decide) (by decide) (fun k => by simp [iv]) rfl (fun h4 I4 K4 => ?_)))
  refine s_return dX0_init_38 rfl (k _ (In.dn (m := 5) I4 (by decide) ?_))
  intro o k h1 h2
  simp only [iv]
  repeat' split
  all_goals first | rfl | omega
theorem n_X5_80 (hb : h.1 = kdL.take 81) (hz : ∀ k, gI h 80 k = 0) (k : ∀ h', Dn h 80 1 h' → Q (.inl none) h') : WM G jX5_init [.ref 80] h Q := by
  refine WM.body (ls := [some (.ref 80)]) rfl (by decide +kernel) rfl (Nat.le_of_ble_eq_true rfl) rfl ?_
  refine s_aload_n dX5_init_0 rfl (s_objInit dX5_init_1 w_441 w_124 w_125 (Nat.le_of_ble_eq_true rfl) (Nat.le_of_ble_eq_true rfl) ?_)
  have I0 : In h 80 81 (fun o k => if o = 80 then 0 else iv o k) h := In.beg hb (fun k => by rw [hz k]; simp)
  refine s_aload_n dX5_init_4 rfl (s_iconst (-1) dX5_init_5 (by decide) (s_putI dX5_init_6 flX5_9 ff5_2 rfl (I0.at0 (by decide) (by decide)) ?_))
  have I1 := I0.pI (o := 80) (k := 2) (v := (-1)) (by decide)
  refine s_return dX5_init_9 rfl (k _ (In.dn (m := 1) I1 (by decide) ?_))
  intro o k h1 h2
  simp only [iv]
  repeat' split
  all_goals first | rfl | omega
end MADE2
