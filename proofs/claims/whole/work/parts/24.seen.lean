section SEEN
variable {G : GX} {h : mH} {Q : mO → mH → Prop}
theorem Sm_ts (h : mH) (v : Int32) : Sm (fun o => o == 83) h (pI h 83 0 v) := Sm.pI Sm.rf rfl _ _
theorem atV_cg {S : Nat → Bool} {h h' : mH} (hS : Sm S h h') {a1 a2 a3 a4 f : Nat} (e1 : S a1 = false) (e2 : S a2 = false) (e3 : S a3 = false) (e4 : S a4 = false) (p t : Nat) : atV h' a1 a2 a3 a4 f p t = atV h a1 a2 a3 a4 f p t := by
  unfold atV
  rw [hS.gI e1, hS.gI e2, hS.gI e3, hS.gI e4, hS.gI e4, hS.gI e4]
theorem PnR_cg {S : Nat → Bool} {h h' : mH} (hS : Sm S h h') {a1 a2 a3 a4 f p : Nat} (e1 : S a1 = false) (e2 : S a2 = false) (e3 : S a3 = false) (e4 : S a4 = false) (hr : PnR h a1 a2 a3 a4 f p) : PnR h' a1 a2 a3 a4 f p := by
  unfold PnR at hr ⊢
  rw [hS.gI e1, hS.gI e2, hS.gI e3, hS.gI e4, hS.gI e4, hS.gI e4]
  exact hr
theorem MR_cg {S : Nat → Bool} {h h' : mH} (hS : Sm S h h') {a f : Nat} (e1 : S 84 = false) (e2 : S 85 = false) (e3 : S 86 = false) (e4 : S a = false) (hm : MR h a f) : MR h' a f := fun p hp => PnR_cg hS e1 e2 e3 e4 (hm p hp)
theorem swM_cg {S : Nat → Bool} {h h' : mH} (hS : Sm S h h') {a f : Nat} (e1 : S 84 = false) (e2 : S 85 = false) (e3 : S 86 = false) (e4 : S a = false) (ax t : Nat) : swM h' a f ax t = swM h a f ax t := by
  unfold swM
  rw [atV_cg hS e1 e2 e3 e4, atV_cg hS e1 e2 e3 e4]
theorem rdV_cg {S : Nat → Bool} {h h' : mH} (hS : Sm S h h') {a2 a4 f : Nat} (e2 : S a2 = false) (e4 : S a4 = false) : ∀ n, rdV h' a2 a4 f n = rdV h a2 a4 f n
  | 0 => rfl
  | n + 1 => by
    unfold rdV perV
    rw [rdV_cg hS e2 e4 n, hS.gI e2, hS.gI e4, hS.gI e4]
theorem CM_rows {h h' : mH} (e0 : gI h' 83 2 = gI h 83 2) (e1 : ∀ k, gI h' 88 k = gI h 88 k) (hc : CM h) : CM h' := by
  unfold CM at hc ⊢
  simp only [e0, e1]
  exact hc
theorem skM_rows {h h' : mH} (e0 : gI h' 83 2 = gI h 83 2) (e1 : ∀ k, gI h' 88 k = gI h 88 k) (ax t : Nat) : skM h' ax t = skM h ax t := by
  unfold skM
  simp only [e0, e1]
theorem FR_cg {S : Nat → Bool} {h h' : mH} (hS : Sm S h h') {r : Nat} (e : ∀ d, d ≤ 6 → S (r + d) = false) (hf : FR h r) : FR h' r := fun p hp => PnR_cg hS (e 1 (by omega)) (e 2 (by omega)) (e 3 (by omega)) (e 4 (by omega)) (hf p hp)
theorem CR_cg {S : Nat → Bool} {h h' : mH} (hS : Sm S h h') {r : Nat} (e : ∀ d, d ≤ 6 → S (r + d) = false) (hc : CR h r) : CR h' r := by
  unfold CR at hc ⊢
  have e5 : ∀ i, gI h' (r + 5) i = gI h (r + 5) i := fun i => hS.gI (e 5 (by omega)) i
  have e6 : ∀ i, gI h' (r + 6) i = gI h (r + 6) i := fun i => hS.gI (e 6 (by omega)) i
  have e0 : gI h' r 5 = gI h r 5 := hS.gI (e 0 (by omega)) 5
  simp only [e5, e6, e0]
  exact hc
theorem pnF_cg {S : Nat → Bool} {h h' : mH} (hS : Sm S h h') {r : Nat} (e : ∀ d, d ≤ 6 → S (r + d) = false) (ax t : Nat) : pnF h' r ax t = pnF h r ax t := by
  have e5 : ∀ i, gI h' (r + 5) i = gI h (r + 5) i := fun i => hS.gI (e 5 (by omega)) i
  have e6 : ∀ i, gI h' (r + 6) i = gI h (r + 6) i := fun i => hS.gI (e 6 (by omega)) i
  have e0 : gI h' r 5 = gI h r 5 := hS.gI (e 0 (by omega)) 5
  unfold pnF swF skF
  rw [atV_cg hS (e 1 (by omega)) (e 2 (by omega)) (e 3 (by omega)) (e 4 (by omega)), atV_cg hS (e 1 (by omega)) (e 2 (by omega)) (e 3 (by omega)) (e 4 (by omega))]
  simp only [e5, e6, e0]
theorem swF_cg {S : Nat → Bool} {h h' : mH} (hS : Sm S h h') {r : Nat} (e : ∀ d, d ≤ 6 → S (r + d) = false) (ax t : Nat) : swF h' r ax t = swF h r ax t := by
  unfold swF
  rw [atV_cg hS (e 1 (by omega)) (e 2 (by omega)) (e 3 (by omega)) (e 4 (by omega)), atV_cg hS (e 1 (by omega)) (e 2 (by omega)) (e 3 (by omega)) (e 4 (by omega))]
theorem FdOk_cg {S : Nat → Bool} {h h' : mH} (hS : Sm S h h') {r : Nat} (e : ∀ d, 7 ≤ d → d ≤ 9 → S (r + d) = false) (hf : FdOk h r) : FdOk h' r := by
  unfold FdOk at hf ⊢
  have e7 : ∀ i, gI h' (r + 7) i = gI h (r + 7) i := fun i => hS.gI (e 7 (by omega) (by omega)) i
  have e8 : ∀ i, gI h' (r + 8) i = gI h (r + 8) i := fun i => hS.gI (e 8 (by omega) (by omega)) i
  have e9 : ∀ i, gI h' (r + 9) i = gI h (r + 9) i := fun i => hS.gI (e 9 (by omega) (by omega)) i
  simp only [e7, e8, e9]
  exact hf
/-- Math.abs and the model's size -/
theorem abs_iI {x : Int} (h1 : -2147483647 ≤ x) (h2 : x ≤ 2147483647) : fJ9_abs_0f7a4 (iI x) = iI (x.natAbs : Int) := by
  unfold fJ9_abs_0f7a4
  rw [i32_0]
  split
  · rename_i c
    rw [iI_le ⟨by decide, by decide⟩ ⟨by omega, by omega⟩] at c
    congr 1; omega
  · rename_i c
    rw [iI_le ⟨by decide, by decide⟩ ⟨by omega, by omega⟩] at c
    rw [iI_neg]
    congr 1; omega
theorem size_iI {x : Int} (h1 : -2147483647 ≤ x) (h2 : x ≤ 2147483647) : fX11_size (iI x) = iI (x.natAbs : Int) := by
  unfold fX11_size
  rw [i32_0]
  split
  · rename_i c
    rw [iI_le ⟨by decide, by decide⟩ ⟨by omega, by omega⟩] at c
    congr 1; omega
  · rename_i c
    rw [iI_le ⟨by decide, by decide⟩ ⟨by omega, by omega⟩] at c
    rw [iI_sub]
    congr 1; omega
/-- off() -/
def offF (h : mH) : Int := ((swF h 3 0 (rdV h 5 7 0 4) - swF h 3 0 0).natAbs + (swF h 3 1 (rdV h 5 7 0 4) - swF h 3 1 0).natAbs : Nat)
theorem swF_b {r ax t : Nat} (hf : FR h r) (hax : ax < 2) : -180 ≤ swF h r ax t ∧ swF h r ax t ≤ 180 := by
  have b1 := atV_b (hf (2 * ax) (by omega)) t
  have b2 := atV_b (hf (2 * ax + 1) (by omega)) t
  unfold swF
  omega
theorem mX10_off (hi : Iv h) (hf : FR h 3) (hfd : FdOk h 3) (k : ∀ h', Sm (cr 3) h h' → FdOk h' 3 → Q (.inl (some (.int (iI (offF h))))) h') : WM G jX10_off [.ref 0] h Q := by
  have z0 : (0 : Int32) = iI ((0 : Nat) : Int) := by decide
  have z1 : (1 : Int32) = iI ((1 : Nat) : Int) := by decide
  have hL := rdV_b4 (h := h) (f := 0) hf 4 (by omega)
  have hco := cr_out (r := 3) (r' := 3) rfl rfl
  refine eX10_off hi (mX2_ticksRound hi rfl hf ?_)
  refine bX10_off_7 hi ?_
  rw [z0]
  refine mX2_swungTo hi rfl (by omega) (by omega) hf hfd (fun h1 hS1 hfd1 => ?_)
  have hi1 := hS1.iv hi
  have hf1 := FR_cg hS1 hco hf
  refine bX10_off_17 hi1 ?_
  rw [z0]
  refine mX2_swungTo hi1 rfl (by omega) (by omega) hf1 hfd1 (fun h2 hS2 hfd2 => ?_)
  have hi2 := hS2.iv hi1
  have hf2 := FR_cg hS2 hco hf1
  refine bX10_off_26 hi2 ?_
  rw [z1]
  refine mX2_swungTo hi2 rfl (by omega) (by omega) hf2 hfd2 (fun h3 hS3 hfd3 => ?_)
  have hi3 := hS3.iv hi2
  have hf3 := FR_cg hS3 hco hf2
  refine bX10_off_39 hi3 ?_
  rw [z0, z1]
  refine mX2_swungTo hi3 rfl (by omega) (by omega) hf3 hfd3 (fun h4 hS4 hfd4 => ?_)
  refine bX10_off_48 (hS4.iv hi3) ?_
  have T12 := hS1.tr hS2
  have T13 := T12.tr hS3
  have b1 := swF_b (t := rdV h (3 + 2) (3 + 4) 0 4) hf (show 0 < 2 by omega)
  have b2 := swF_b (t := 0) hf (show 0 < 2 by omega)
  have b3 := swF_b (t := rdV h (3 + 2) (3 + 4) 0 4) hf (show 1 < 2 by omega)
  have b4 := swF_b (t := 0) hf (show 1 < 2 by omega)
  rw [swF_cg hS1 hco, swF_cg T12 hco, swF_cg T13 hco, iI_sub, iI_sub, abs_iI (by omega) (by omega), abs_iI (by omega) (by omega), iI_add, ← Int.natCast_add]
  exact k h4 (T13.tr hS4) hfd4
def offM (h : mH) : Int := ((swM h 87 0 0 (rdV h 85 87 0 4) - swM h 87 0 0 0).natAbs + (swM h 87 0 1 (rdV h 85 87 0 4) - swM h 87 0 1 0).natAbs : Nat)
theorem mX11_off (hi : Iv h) (hm : MR h 87 0) (k : Q (.inl (some (.int (iI (offM h))))) (pI h 83 0 0)) : WM G jX11_off [.ref 83] h Q := by
  have z0 : (0 : Int32) = iI ((0 : Nat) : Int) := by decide
  have z1 : (1 : Int32) = iI ((1 : Nat) : Int) := by decide
  have hL := rdV_b4 (h := h) (f := 0) hm 4 (by omega)
  have hS := Sm_ts h 0
  have hm1 := MR_cg hS (a := 87) (f := 0) rfl rfl rfl rfl hm
  have hi1 : Iv (pI h 83 0 0) := hi
  have b1 := swM_b (t := rdV h 85 87 0 4) hm (show 0 < 2 by omega)
  have b2 := swM_b (t := 0) hm (show 0 < 2 by omega)
  have b3 := swM_b (t := rdV h 85 87 0 4) hm (show 1 < 2 by omega)
  have b4 := swM_b (t := 0) hm (show 1 < 2 by omega)
  have er : rdV (pI h 83 0 0) 85 87 0 4 = rdV h 85 87 0 4 := rdV_cg hS rfl rfl 4
  have es : ∀ ax t, swM (pI h 83 0 0) 87 0 ax t = swM h 87 0 ax t := swM_cg hS rfl rfl rfl rfl
  refine eX11_off hi (mX11_roundOf (f := 0) hi1 (a := 87) (n := 12) rfl (by omega) (by omega) hm1 ?_)
  rw [er]
  refine bX11_off_14 hi1 ?_
  refine mX11_penOf (f := 0) (ax := 0) hi1 (a := 87) (n := 12) rfl (by omega) (by omega) (by omega) (by omega) hm1 ?_
  refine bX11_off_26 hi1 ?_
  refine mX11_penOf (f := 0) (ax := 0) (t := 0) hi1 (a := 87) (n := 12) rfl (by omega) (by omega) (by omega) (by omega) hm1 ?_
  refine bX11_off_37 hi1 ?_
  refine mX11_penOf (f := 0) (ax := 1) hi1 (a := 87) (n := 12) rfl (by omega) (by omega) (by omega) (by omega) hm1 ?_
  refine bX11_off_52 hi1 ?_
  refine mX11_penOf (f := 0) (ax := 1) (t := 0) hi1 (a := 87) (n := 12) rfl (by omega) (by omega) (by omega) (by omega) hm1 ?_
  refine bX11_off_63 hi1 ?_
  rw [es, es, es, es, iI_sub, iI_sub, size_iI (by omega) (by omega), size_iI (by omega) (by omega), iI_add, ← Int.natCast_add]
  exact k
theorem mX11_round (hi : Iv h) (hm : MR h 87 0) (k : Q (.inl (some (.int (iI (rdV h 85 87 0 4 : Nat))))) (pI h 83 0 0)) : WM G jX11_round [.ref 83] h Q := by
  have hS := Sm_ts h 0
  have hm1 := MR_cg hS (a := 87) (f := 0) rfl rfl rfl rfl hm
  have hi1 : Iv (pI h 83 0 0) := hi
  have er : rdV (pI h 83 0 0) 85 87 0 4 = rdV h 85 87 0 4 := rdV_cg hS rfl rfl 4
  refine eX11_round hi (mX11_roundOf (f := 0) hi1 (a := 87) (n := 12) rfl (by omega) (by omega) hm1 ?_)
  rw [er]
  exact bX11_round_14 hi1 k
theorem mX10_round (hi : Iv h) (hf : FR h 3) (k : Q (.inl (some (.int (iI (rdV h 5 7 0 4 : Nat))))) h) : WM G jX10_round [.ref 0] h Q :=
  eX10_round hi (mX2_ticksRound hi rfl hf (bX10_round_7 hi k))
end SEEN
