section MADE
variable {G : GX} {j : MX} {pc : Nat} {ls : mL} {st : List Value} {h hS : mH} {Q : mO → mH → Prop} {o0 L : Nat} {f : Nat → Nat → Int32}
theorem rOff_b {c k d : Nat} (h : rOff c k = some d) : c < 11 ∧ k < 61 ∧ 1 ≤ d := by
  unfold rOff at h
  split at h <;> first | (cases h; decide) | cases h
theorem rOff_in : ∀ c, c < 11 → ∀ k, k < 61 → ∀ k', k' < 61 → (!(rOff c k == rOff c k') || ((rOff c k).isNone || (k == k'))) = true := by decide +kernel
theorem rOff_inj {c k k' d : Nat} (h1 : rOff c k = some d) (h2 : rOff c k' = some d) : k = k' := by
  obtain ⟨a, b, _⟩ := rOff_b h1
  obtain ⟨_, b', _⟩ := rOff_b h2
  have := rOff_in c a k b k' b'
  rw [h1, h2] at this
  simpa using this
def szC : List Nat := [5, 4, 10, 5, 3, 1, 13, 6, 2, 83, 33]
theorem rOff_sz' : ∀ c, c < 11 → ∀ k, k < 61 → (match rOff c k with | some d => decide (d < szC.getD c 0) | none => true) = true := by decide +kernel
theorem rOff_sz {c k d : Nat} (h1 : rOff c k = some d) : d < szC.getD c 0 := by
  obtain ⟨a, b, _⟩ := rOff_b h1
  have := rOff_sz' c a k b
  rw [h1] at this
  simpa using this
/-- what stands in the ints at first -/
def iv (o k : Nat) : Int32 := if (o = 5 ∨ o = 15 ∨ o = 25 ∨ o = 58 ∨ o = 85) ∧ k < 4 then 2 else if (o = 1 ∧ k = 3) ∨ (o = 55 ∧ k = 8) ∨ (o = 80 ∧ k = 2) ∨ (o = 83 ∧ (k = 11 ∨ k = 40)) then -1 else 0
theorem kdL_len : kdL.length = 117 := by decide
theorem kd_at {o : Nat} (ho : o < 117) : kdL[o]? = some (kd o) := by
  unfold kd
  rw [List.getD_eq_getElem?_getD, List.getElem?_eq_getElem (by rw [kdL_len]; exact ho)]
  rfl
theorem tk_len (hL : L ≤ 117) : (kdL.take L).length = L := by
  rw [List.length_take, kdL_len]
  omega
theorem tk_s (hL : L < 117) : kdL.take (L + 1) = kdL.take L ++ [kd L] := by
  rw [List.take_add_one, kd_at hL]
  rfl
theorem tk_at {o : Nat} (ho : o < L) (hL : L ≤ 117) : (kdL.take L)[o]? = some (kd o) := by
  rw [List.getElem?_take, if_pos ho]
  exact kd_at (by omega)
/-- thing o0 is being made: L things are there -/
def In (hS : mH) (o0 L : Nat) (f : Nat → Nat → Int32) (h : mH) : Prop := h.1 = kdL.take L ∧ (∀ o k, o < o0 → gI h o k = gI hS o k ∧ gR h o k = gR hS o k) ∧ (∀ o k, o0 ≤ o → o < L → gI h o k = f o k) ∧ (∀ k d, rOff (kd o0).1 k = some d → o0 + d < L → gR h o0 k = .ref (o0 + d)) ∧ ∀ o k d, o0 < o → o < L → rOff (kd o).1 k = some d → gR h o k = .ref (o + d)
/-- thing o0 is made, with all m that belong to it -/
def Dn (hS : mH) (o0 m : Nat) (h : mH) : Prop := h.1 = kdL.take (o0 + m) ∧ (∀ o k, o < o0 → gI h o k = gI hS o k ∧ gR h o k = gR hS o k) ∧ (∀ o k, o0 ≤ o → o < o0 + m → gI h o k = iv o k) ∧ ∀ o k d, o0 ≤ o → o < o0 + m → rOff (kd o).1 k = some d → gR h o k = .ref (o + d)
theorem In.beg (hb : hS.1 = kdL.take (o0 + 1)) (hz : ∀ k, gI hS o0 k = f o0 k) : In hS o0 (o0 + 1) f hS := by
  refine ⟨hb, fun _ _ _ => ⟨rfl, rfl⟩, fun o k h1 h2 => ?_, fun k d h1 h2 => ?_, fun o k d h1 h2 => by omega⟩
  · have : o = o0 := by omega
    subst this
    exact hz k
  · have := (rOff_b h1).2.2
    omega
theorem In.dn {m : Nat} (I : In hS o0 (o0 + m) f h) (hm : szC.getD (kd o0).1 0 ≤ m) (hf : ∀ o k, o0 ≤ o → o < o0 + m → f o k = iv o k) : Dn hS o0 m h := by
  obtain ⟨a, b, c, d, e⟩ := I
  refine ⟨a, b, fun o k h1 h2 => (c o k h1 h2).trans (hf o k h1 h2), fun o k d' h1 h2 h3 => ?_⟩
  by_cases x : o = o0
  · subst x
    have := rOff_sz h3
    exact d k d' h3 (by omega)
  · exact e o k d' (by omega) h2 h3
theorem In.pI {o k : Nat} {v : Int32} (I : In hS o0 L f h) (ho : o0 ≤ o) : In hS o0 L (fun o' k' => if o' = o ∧ k' = k then v else f o' k') (pI h o k v) := by
  obtain ⟨a, b, c, d, e⟩ := I
  refine ⟨a, fun o' k' h1 => ?_, fun o' k' h1 h2 => ?_, d, e⟩
  · rw [gI_pI, if_neg (by omega)]
    exact b o' k' h1
  · show _ = if o' = o ∧ k' = k then v else f o' k'
    rw [gI_pI]
    by_cases x : o' = o ∧ k' = k
    · rw [if_pos x, if_pos x]
    · rw [if_neg x, if_neg x]
      exact c o' k' h1 h2
theorem In.len (I : In hS o0 L f h) (hL : L ≤ 117) : h.1.length = L := by rw [I.1, tk_len hL]
theorem gI_aN0 {c n k : Nat} : gI (aN h c n) h.1.length k = 0 := by
  show (if h.1.length = h.1.length then (fun _ => 0) else h.2.1 h.1.length) k = 0
  rw [if_pos rfl]
theorem In.arr {ca N k0 : Nat} (I : In hS o0 L f h) (hL : L < 117) (h0 : o0 < L) (eL : kd L = (ca, N)) (hc : 11 ≤ ca) (hf : ∀ k, f L k = 0) (ho : rOff (kd o0).1 k0 = some (L - o0)) : In hS o0 (L + 1) f (pR (aN h ca N) o0 k0 (.ref L)) := by
  have ln := I.len (by omega)
  obtain ⟨a, b, c, d, e⟩ := I
  refine ⟨?_, fun o k h1 => ?_, fun o k h1 h2 => ?_, fun k d' h1 h2 => ?_, fun o k d' h1 h2 h3 => ?_⟩
  · show h.1 ++ [(ca, N)] = _
    rw [a, tk_s hL, eL]
  · rw [gI_pR, gI_aN (by omega), gR_pR, if_neg (by omega), gR_aN (by omega)]
    exact b o k h1
  · rw [gI_pR]
    by_cases x : o = L
    · subst x
      rw [← ln, gI_aN0, ln]
      exact (hf k).symm
    · rw [gI_aN (by omega)]
      exact c o k h1 (by omega)
  · by_cases x : o0 + d' = L
    · have : k = k0 := rOff_inj h1 (by rw [ho]; congr 1; omega)
      subst this
      rw [gR_pR, if_pos ⟨rfl, rfl⟩, x]
    · have : k ≠ k0 := fun z => by
        subst z
        rw [ho] at h1
        cases h1
        omega
      rw [gR_pR, if_neg (fun z => this z.2), gR_aN (by omega)]
      exact d k d' h1 (by omega)
  · by_cases x : o = L
    · subst x
      rw [eL] at h3
      have := (rOff_b h3).1
      omega
    · rw [gR_pR, if_neg (by omega), gR_aN (by omega)]
      exact e o k d' h1 (by omega) h3
/-- a thing with all that belongs to it was made, and laid into a field -/
theorem In.sub {c N m k0 : Nat} {h2 : mH} (I : In hS o0 L f h) (hL : L < 117) (h0 : o0 < L) (eL : kd L = (c, N)) (D : Dn (aN h c N) L m h2) (hf : ∀ o k, L ≤ o → o < L + m → f o k = iv o k) (hm : 1 ≤ m) (hs : ∀ k d, rOff (kd o0).1 k = some d → L ≤ o0 + d → o0 + d < L + m → k = k0 ∧ o0 + d = L) (hn : ∀ d, rOff (kd o0).1 k0 = some d → L ≤ o0 + d) : In hS o0 (L + m) f (pR h2 o0 k0 (.ref L)) := by
  have ln := I.len (by omega)
  obtain ⟨a, b, c', d, e⟩ := I
  obtain ⟨a2, b2, c2, d2⟩ := D
  refine ⟨a2, fun o k h1 => ?_, fun o k h1 h2' => ?_, fun k d' h1 h2' => ?_, fun o k d' h1 h2' h3 => ?_⟩
  · rw [gI_pR, gR_pR, if_neg (by omega), (b2 o k (by omega)).1, (b2 o k (by omega)).2, gI_aN (by omega), gR_aN (by omega)]
    exact b o k h1
  · rw [gI_pR]
    by_cases x : o < L
    · rw [(b2 o k x).1, gI_aN (by omega)]
      exact c' o k h1 x
    · rw [c2 o k (by omega) (by omega)]
      exact (hf o k (by omega) (by omega)).symm
  · by_cases x : o0 + d' < L
    · have : k ≠ k0 := fun z => by
        subst z
        have := hn d' h1
        omega
      rw [gR_pR, if_neg (fun z => this z.2), (b2 o0 k (by omega)).2, gR_aN (by omega)]
      exact d k d' h1 x
    · obtain ⟨y1, y2⟩ := hs k d' h1 (by omega) h2'
      subst y1
      rw [gR_pR, if_pos ⟨rfl, rfl⟩, y2]
  · rw [gR_pR, if_neg (by omega)]
    by_cases x : o < L
    · rw [(b2 o k x).2, gR_aN (by omega)]
      exact e o k d' h1 x h3
    · exact d2 o k d' (by omega) (by omega) h3
theorem In.at0 (I : In hS o0 L f h) (hL : L ≤ 117) (h0 : o0 < L) : h.1[o0]? = some (kd o0) := by rw [I.1]; exact tk_at h0 hL
def slk (L : Nat) : Nat := ((kdL.take L).map Prod.snd).sum
theorem slk_b : ∀ L, L < 118 → slk L ≤ 17000 := by decide +kernel
theorem In.sl (I : In hS o0 L f h) (hL : L ≤ 117) : sl h ≤ 17000 := by
  have := slk_b L (by omega)
  unfold _root_.Jvm.Pilot.CPenSwingsLaw_law_r2440_7aaa7a.sl
  rw [I.1]
  exact this
/-- an array is made, and laid into a field -/
theorem w_arr {i c cn ca N k0 : Nat} {n : Int32} {at9 : ArrayType} (I : In hS o0 L f h) (d1 : decode (jC j) pc = .ok (.newarray at9, 2)) (d2 : decode (jC j) (pc + 2) = .ok (.putfield i, 3)) (hat : (at9 = .int ∧ ca = 100) ∨ (at9 = .byte ∧ ca = 101) ∨ (at9 = .long ∧ ca = 102)) (hw : Cond.arrayClass (newarray.typeOf at9) ∈ gT) (hn : ¬ n < 0) (hN : n.toNatClampNeg = N) (hB : N ≤ 3000) (hF : FL (jY j).cls i c k0) (hFF : FF c k0 true) (hbi : (jY j).name = "<init>" ∧ ∀ C T N, mCl[c]? = some (C, T, N) → (T k0).1 = (jY j).cls) (ht : isRefT (mTy c k0) = true) (e0 : kd o0 = (c, cn)) (eL : kd L = (ca, N)) (hL : L < 117) (h0 : o0 < L) (hf : ∀ k, f L k = 0) (ho : rOff c k0 = some (L - o0)) (k : ∀ h', In hS o0 (L + 1) f h' → Vw G j (pc + 5) ls st h' Q) : Vw G j pc ls (.int n :: .ref o0 :: st) h Q := by
  have ln := I.len (by omega)
  have sb := I.sl (by omega)
  have J := I.arr (k0 := k0) hL h0 eL (by omega) hf (by rw [e0]; exact ho)
  have oc : (aN h ca N).1[o0]? = some (c, cn) := by
    show (h.1 ++ [(ca, N)])[o0]? = _
    rw [List.getElem?_append_left (by omega), I.at0 (by omega) h0, e0]
  refine s_newarray (t0 := 0) d1 hat hw hn hN (by omega) (by rw [ln]; show L + 1 ≤ 1150; omega) (by show sl h + N ≤ 21356; omega) ?_
  rw [ln]
  exact s_putR true d2 hF hFF (fun _ => hbi) ht oc (k _ J)
/-- Arrays.fill, while things are being made -/
theorem mF_loop {a n : Nat} {v : Int32} (hn9 : n ≤ 3000) : ∀ (d i : Nat) (h : mH), i + d = n → h.1[a]? = some (100, n) → (∀ h', h'.1 = h.1 → (∀ o k, gR h' o k = gR h o k) → (∀ o k, o ≠ a → gI h' o k = gI h o k) → (∀ k, k < i ∨ n ≤ k → gI h' a k = gI h a k) → (∀ k, i ≤ k → k < n → gI h' a k = v) → Q (.inl none) h') →
    Vw G jJ7_fill_53178 5 [some (.ref a), some (.int v), some (.int (iI i)), some (.int (Int32.ofNat n))] [] h Q
  | 0, i, h, e, ho, k => by
    have : i = n := by omega
    subst this
    have hc : Int32.ofNat i ≤ iI (i : Int) := by rw [show Int32.ofNat i = iI i from (Int32.ofInt_eq_ofNat).symm]; exact Int32.le_refl _
    exact s_iload_n dJ7_fill_53178_5 rfl (s_iload_n dJ7_fill_53178_6 rfl (s_icmp_ge 20 dJ7_fill_53178_7 rfl (fun _ => s_return dJ7_fill_53178_20 rfl (k h rfl (fun _ _ => rfl) (fun _ _ _ => rfl) (fun _ _ => rfl) (fun k a b => by omega))) (fun c => absurd hc c)))
  | d + 1, i, h, e, ho, k => by
    have hx : (iI (i : Int)).toNatClampNeg = i := by rw [iI_ix ⟨by omega, by omega⟩]; rfl
    have hv : vp_in (iI (i : Int)) n := iI_in (by omega) (by omega) (by omega)
    have e1 : iI (i : Int) + 1 = iI ((i + 1 : Nat) : Int) := by rw [show (1 : Int32) = iI 1 from by decide, iI_add]; congr 1
    refine s_iload_n dJ7_fill_53178_5 rfl (s_iload_n dJ7_fill_53178_6 rfl (s_icmp_ge 20 dJ7_fill_53178_7 rfl (fun c => ?_) (fun _ => s_aload_n dJ7_fill_53178_10 rfl (s_iload_n dJ7_fill_53178_11 rfl (s_iload_n dJ7_fill_53178_12 rfl (s_iastore dJ7_fill_53178_13 ho hv (s_iinc 1 dJ7_fill_53178_14 rfl (by decide) (Nat.le_of_ble_eq_true rfl) rfl (s_goto 5 dJ7_fill_53178_17 rfl ?_))))))))
    · rw [show Int32.ofNat n = iI n from (Int32.ofInt_eq_ofNat).symm, iI_le ⟨by omega, by omega⟩ ⟨by omega, by omega⟩] at c
      omega
    · show Vw G jJ7_fill_53178 5 [some (.ref a), some (.int v), some (.int (iI (i : Int) + 1)), some (.int (Int32.ofNat n))] [] (pI h a (Int32.toNatClampNeg (iI (i : Int))) v) Q
      rw [hx, e1]
      refine mF_loop hn9 d (i + 1) _ (by omega) ho (fun h' h1 h2 h3 h4 h5 => k h' h1 h2 (fun o q ho' => ?_) (fun q hq => ?_) (fun q hq hq2 => ?_))
      · rw [h3 o q ho', gI_pI, if_neg (fun z => ho' z.1)]
      · rw [h4 q (by omega), gI_pI, if_neg (by omega)]
      · by_cases x : q = i
        · subst x
          rw [h4 q (by omega), gI_pI, if_pos ⟨rfl, rfl⟩]
        · exact h5 q (by omega) hq2
theorem mF_fill {a n : Nat} {v : Int32} (hn9 : n ≤ 3000) (ho : h.1[a]? = some (100, n)) (k : ∀ h', h'.1 = h.1 → (∀ o k, gR h' o k = gR h o k) → (∀ o k, o ≠ a → gI h' o k = gI h o k) → (∀ k, n ≤ k → gI h' a k = gI h a k) → (∀ k, k < n → gI h' a k = v) → Q (.inl none) h') : WM G jJ7_fill_53178 [.ref a, .int v] h Q := by
  refine WM.body (ls := [some (.ref a), some (.int v), none, none]) rfl (by decide +kernel) rfl (Nat.le_of_ble_eq_true rfl) rfl (s_iconst 0 dJ7_fill_53178_0 (by decide) (s_istore_n dJ7_fill_53178_1 (Nat.le_of_ble_eq_true rfl) rfl (s_aload_n dJ7_fill_53178_2 rfl (s_alen dJ7_fill_53178_3 ho (Or.inl rfl) (s_istore_n dJ7_fill_53178_4 (Nat.le_of_ble_eq_true rfl) rfl ?_)))))
  show Vw G jJ7_fill_53178 5 [some (.ref a), some (.int v), some (.int 0), some (.int (Int32.ofNat n))] [] h Q
  rw [i32_0]
  exact mF_loop hn9 n 0 h (by omega) ho (fun h' h1 h2 h3 h4 h5 => k h' h1 h2 h3 (fun q hq => h4 q (.inr hq)) (fun q hq => h5 q (by omega) hq))
end MADE
