section NUMM
variable {G : GX} {h : mH} {Q : mO → mH → Prop}
theorem good_b {h : mH} : fX11_isGood h = 0 ↔ gI h 83 10 ≠ 0 := by
  unfold fX11_isGood
  split
  · rename_i c; exact ⟨fun z => absurd z (by decide), fun z => absurd c z⟩
  · rename_i c; exact ⟨fun _ => c, fun _ => rfl⟩
/-- the model has a fault -/
def FM (g : mH) (w p : Nat) : Prop := gI g 83 10 = iI (w : Nat) ∧ gI g 83 11 = iI (p : Nat)
theorem FM_bad {g : mH} {w p : Nat} (hf : FM g w p) (hw : w ≠ 0) (hw9 : w ≤ 9) : gI g 83 10 ≠ 0 := by
  rw [hf.1, n_0, Ne, eq_n (by omega) (by omega)]
  exact hw
def wgM (o k : Nat) : Bool := o == 83 && (k == 10 || (k == 11))
theorem mX11_wrong {f w : Nat} (hi : Iv h) (hg : gI h 83 10 = 0) (h16 : gI h 83 16 = iI f) (k : ∀ g, Ce wgM h g → FM g w f → Q (.inl none) g) : WM G jX11_wrong [.ref 83, .int (iI w)] h Q := by
  refine eX11_wrong hi ⟨fun _ => k _ ((Ce.rf.pI rfl _).pI rfl _) ⟨?_, ?_⟩, fun c => absurd hg c⟩
  · rw [gI_pI, if_neg (by omega), gI_pI, if_pos ⟨rfl, rfl⟩]
  · rw [gI_pI, if_pos ⟨rfl, rfl⟩, gI_pI, if_neg (by omega)]; exact h16
theorem mX11_wrong_bad {w : Int32} (hi : Iv h) (hg : gI h 83 10 ≠ 0) (k : Q (.inl none) h) : WM G jX11_wrong [.ref 83, .int w] h Q :=
  eX11_wrong hi ⟨fun c => absurd c hg, fun _ => k⟩
theorem mX11_stp {z : Nat → Int} {n f : Nat} (hi : Iv h) (hz : ZM z h) (hn4 : n ≤ 400) (hf : f ≤ n) (ht : TM z n f h) (k : ∀ g, Cj smS h g → TM z n (adT z n f) g → Q (.inl none) g) : WM G jX11_steps [.ref 83] h Q :=
  mX11_steps hi hz hn4 (enT_b hf).2.1 ht.1 ht.2.1 k
def nmS (o k : Nat) : Bool := o == 83 && decide (10 ≤ k ∧ k ≤ 19 ∧ k ≠ 12 ∧ k ≠ 13)
theorem sm_nm {a b : mH} (h : Cj smS a b) : Cj nmS a b := h.wk (fun o k ho => by unfold nmS at ho; unfold smS; simp at ho ⊢; omega)
theorem wg_nm {a b : mH} (h : Ce wgM a b) : Cj nmS a b := h.cj.wk (fun o k ho => by unfold nmS at ho; unfold wgM; simp at ho ⊢; omega)
theorem sm_10 {a b : mH} (h : Cj smS a b) : gI b 83 10 = gI a 83 10 := h.2.2.2 83 10 rfl
theorem mX11_need {z : Nat → Int} {n f : Nat} {b : Bool} (hi : Iv h) (hz : ZM z h) (hn4 : n ≤ 400) (hf : f ≤ n) (ht : TM z n f h) (hg : gI h 83 10 = 0) (ky : b = true → ∀ g, Cj smS h g → TM z n (adT z n f) g → gI g 83 10 = 0 → Q (.inl none) g) (kn : b = false → ∀ g, Cj nmS h g → FM g 1 f → Q (.inl none) g) : WM G jX11_need [.ref 83, .int (bL b)] h Q := by
  refine eX11_need hi ⟨fun _ => ⟨fun c => ?_, fun c => ?_⟩, fun c => absurd hg (good_b.mp c)⟩
  · rw [bL_0] at c
    rw [n_1]
    exact mX11_wrong hi hg ht.2.2.2.1 (fun g C F => bX11_need_24 (C.iv hi) (kn c g (wg_nm C) F))
  · rw [bL_1] at c
    exact mX11_stp hi hz hn4 hf ht (fun g C t => bX11_need_16 (C.iv hi) (bX11_need_24 (C.iv hi) (ky c g C t (by rw [sm_10 C]; exact hg))))
theorem mX11_need_bad {v : Int32} (hi : Iv h) (hg : gI h 83 10 ≠ 0) (k : Q (.inl none) h) : WM G jX11_need [.ref 83, .int v] h Q :=
  eX11_need hi ⟨fun c => absurd (good_b.mpr hg) c, fun _ => k⟩
theorem mX11_number {z : Nat → Int} {n f : Nat} {lo hi' : Int} (hi : Iv h) (hz : ZM z h) (hn4 : n ≤ 400) (hf : f ≤ n) (ht : TM z n f h) (hg : gI h 83 10 = 0) (hlo : 0 ≤ lo) (hlh : lo ≤ 999) (hhi : 0 ≤ hi' ∧ hi' ≤ 999) (ky : ∀ g, nuW z n f lo hi' = 0 → Cj smS h g → TM z n (adT z n f) g → gI g 83 10 = 0 → Q (.inl (some (.int (iI (nuV z n f))))) g) (kn : ∀ g v, nuW z n f lo hi' ≠ 0 → Cj nmS h g → FM g (nuW z n f lo hi') f → Q (.inl (some (.int v))) g) : WM G jX11_number [.ref 83, .int (iI lo), .int (iI hi')] h Q := by
  obtain ⟨t13, t14, t15, t16, t17, t18, t19, t20⟩ := id ht
  have kc := kdT_c (z := z) (n := n) (f := f)
  have en := enT_b (z := z) hf
  have so2 : soT z n f = 2 ↔ kdT z n f = 2 := by
    unfold soT
    split
    · rename_i c
      rw [c]
      split <;> omega
    · exact Iff.rfl
  have sob : soT z n f ≤ 4 := by
    unfold soT
    split
    · split <;> omega
    · have := kc.2.2.2.2; omega
  have bad : ∀ w g, nuW z n f lo hi' = w → w ≠ 0 → w ≤ 9 → Ce wgM h g → FM g w f → Vw G jX11_number 54 [some (.ref 83), none, none, none] [] g Q := fun w g hw w0 w9 C F => by
    have gi := C.iv hi
    refine bX11_number_54 gi ⟨fun _ => bX11_number_70 gi (kn g _ (by omega) (wg_nm C) (by rw [hw]; exact F)), fun c => absurd (good_b.mpr (FM_bad F w0 w9)) c⟩
  refine eX11_number hi ⟨fun _ => ?_, fun c => absurd hg (good_b.mp c)⟩
  rw [t15, t17, n_2, eq_n (by omega) (by omega), so2]
  refine ⟨fun w => ?_, fun w => ?_⟩
  · have hfn := (kc.2.2.1.mp w).1
    have vb := vlT_b (z := z) (f := f) (enT z n f - f) (dig_all hf w)
    have no : nuB z n f lo hi' = false → Vw G jX11_number 49 [some (.ref 83), none, none, none] [] h Q := fun y => by
      have hw : nuW z n f lo hi' = 2 := by unfold nuW; rw [if_pos w, y]; rfl
      refine bX11_number_49 hi ?_
      rw [n_2]
      exact mX11_wrong hi hg t16 (fun g C F => bad 2 g hw (by omega) (by omega) C F)
    rw [show (3 : Int32) = iI ((3 : Nat) : Int) from by decide, lt_n (by omega) (by omega)]
    refine ⟨fun c3 => no (by unfold nuB; exact decide_eq_false (by omega)), fun c3 => ?_⟩
    have vb9 : vlT z f (enT z n f - f) ≤ 999 := by
      rcases (show enT z n f - f = 1 ∨ enT z n f - f = 2 ∨ enT z n f - f = 3 from by have := en.2.2 hfn; omega) with q | q | q
      · have := vb.2.1 q; omega
      · have := vb.2.2.1 q; omega
      · exact vb.2.2.2 q
    have v18 := t18 w
    rw [show min 3 (enT z n f - f) = enT z n f - f from by omega] at v18
    rw [v18, iI_lt ⟨by omega, by omega⟩ ⟨by omega, by omega⟩, iI_le ⟨by omega, by omega⟩ ⟨by omega, by omega⟩]
    refine ⟨fun y => no ?_, fun y => ⟨fun x => ?_, fun x => no ?_⟩⟩
    · unfold nuB; exact decide_eq_false (by omega)
    · have hw : nuW z n f lo hi' = 0 := by unfold nuW nuB; rw [if_pos w, decide_eq_true ⟨by omega, by omega, x⟩]; rfl
      refine bX11_number_54 hi ⟨fun c => absurd hg (good_b.mp c), fun _ => ?_⟩
      rw [v18]
      exact mX11_stp hi hz hn4 hf ht (fun g C t => bX11_number_70 (C.iv hi) (ky g hw C t (by rw [sm_10 C]; exact hg)))
    · unfold nuB; exact decide_eq_false (by omega)
  · have hw : nuW z n f lo hi' = 1 := by unfold nuW; rw [if_neg w]
    rw [n_1]
    exact mX11_wrong hi hg t16 (fun g C F => bX11_number_22 (C.iv hi) (bad 1 g hw (by omega) (by omega) C F))
theorem mX11_number_bad {a b : Int32} (hi : Iv h) (hg : gI h 83 10 ≠ 0) (k : Q (.inl (some (.int 0))) h) : WM G jX11_number [.ref 83, .int a, .int b] h Q :=
  eX11_number hi ⟨fun c => absurd (good_b.mpr hg) c, fun _ => k⟩
theorem mX11_signed_bad {a : Int32} (hi : Iv h) (hg : gI h 83 10 ≠ 0) (k : Q (.inl (some (.int 0))) h) : WM G jX11_signed [.ref 83, .int a] h Q :=
  eX11_signed hi ⟨fun _ => bX11_signed_28 hi (bX11_signed_38 hi (mX11_number_bad hi hg (bX11_signed_44 hi ⟨fun _ => k, fun c => absurd rfl c⟩))), fun c => absurd (good_b.mpr hg) c⟩
theorem mX11_signed {z : Nat → Int} {n f : Nat} {hi' : Int} (hi : Iv h) (hz : ZM z h) (hn4 : n ≤ 400) (hf : f ≤ n) (ht : TM z n f h) (hg : gI h 83 10 = 0) (hhi : 0 ≤ hi' ∧ hi' ≤ 999) (ky : ∀ g, nuW z n (snP z n f) 0 hi' = 0 → Cj smS h g → TM z n (adT z n (snP z n f)) g → gI g 83 10 = 0 → Q (.inl (some (.int (iI (snV z n f))))) g) (kn : ∀ g v, nuW z n (snP z n f) 0 hi' ≠ 0 → Cj nmS h g → FM g (nuW z n (snP z n f) 0 hi') (snP z n f) → Q (.inl (some (.int v))) g) : WM G jX11_signed [.ref 83, .int (iI hi')] h Q := by
  have sb := snP_b (z := z) hf
  have hs := sign_M hz hn4 ht (c := 45) (.inr (.inl rfl))
  have go : ∀ (g1 : mH), Cj smS h g1 → TM z n (snP z n f) g1 → gI g1 83 10 = 0 → Vw G jX11_signed 38 [some (.ref 83), some (.int (iI hi')), some (.int (bL (sgT z n f 45))), none] [] g1 Q := fun g1 C1 t1 q1 => by
    have i1 := C1.iv hi
    refine bX11_signed_38 i1 ?_
    rw [show (0 : Int32) = iI 0 from by decide]
    refine mX11_number i1 (fun i hi => by rw [C1.2.2.2 89 i rfl]; exact hz i hi) hn4 sb.2 t1 q1 (by omega) (by omega) hhi (fun g hw C t q => ?_) (fun g v hw C F => ?_)
    · refine bX11_signed_44 (C.iv i1) ⟨fun y => ?_, fun y => ?_⟩
      · rw [bL_0] at y
        have := ky g hw (C1.tr C) t q
        unfold snV at this
        rw [y] at this
        exact this
      · rw [bL_1] at y
        have := ky g hw (C1.tr C) t q
        unfold snV at this
        rw [y] at this
        rw [i32_0, iI_sub]
        have e : (0 : Int) - nuV z n (snP z n f) = -(nuV z n (snP z n f)) := by omega
        rw [e]
        exact this
    · exact bX11_signed_44 (C.iv i1) ⟨fun _ => kn g _ hw ((sm_nm C1).tr C) F, fun _ => kn g _ hw ((sm_nm C1).tr C) F⟩
  refine eX11_signed hi ⟨fun c => absurd hg (good_b.mp c), fun _ => ?_⟩
  have no : sgT z n f 45 = false → Vw G jX11_signed 28 [some (.ref 83), some (.int (iI hi')), none, none] [] h Q := fun w => by
    refine bX11_signed_28 hi ?_
    have := go h Cj.rf (by unfold snP; rw [w]; exact ht) hg
    rw [w] at this
    exact this
  have nf : ∀ {p : Prop}, ¬ p → (p ↔ sgT z n f 45 = true) → sgT z n f 45 = false := fun hp hq => by
    cases e : sgT z n f 45 with
    | false => rfl
    | true => exact absurd (hq.mpr e) hp
  refine ⟨fun c => no (nf (fun w => c w.1) hs), fun c => ⟨fun c2 => no (nf (fun w => c2 w.2) hs), fun c2 => ?_⟩⟩
  have w := hs.mp ⟨c, c2⟩
  refine mX11_stp hi hz hn4 hf ht (fun g C t => ?_)
  have := go g C (by unfold snP; rw [w]; exact t) (by rw [sm_10 C]; exact hg)
  rw [w] at this
  exact this
end NUMM
