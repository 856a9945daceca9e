section DRAWN
variable {G : GX} {h : mH} {Q : mO → mH → Prop}
/-- Arrays.fill(int[], int) -/
theorem fill_loop {a n : Nat} {v : Int32} (k1 : kd a = (100, n)) (hn9 : n ≤ 3000) : ∀ (d i : Nat) (h : mH), i + d = n → Iv h → (∀ h', Sm (fun o => o == a) h h' → (∀ k, k < i → gI h' a k = gI h a k) → (∀ k, i ≤ k → k < n → gI h' a k = v) → Q (.inl none) h') →
    Vw G jJ7_fill_53178 5 [some (.ref a), some (.int v), some (.int (iI i)), some (.int (Int32.ofNat n))] [] h Q
  | 0, i, h, e, hi, k => by
    have : i = n := by omega
    subst this
    have hc : Int32.ofNat i ≤ iI (i : Int) := by rw [show Int32.ofNat i = iI i from (Int32.ofInt_eq_ofNat).symm]; exact Int32.le_refl _
    exact bJ7_fill_53178_5 hi k1 ⟨fun _ => k h Sm.rf (fun _ _ => rfl) (fun k a b => by omega), fun c => absurd hc c⟩
  | d + 1, i, h, e, hi, k => by
    have hx : (iI (i : Int)).toNatClampNeg = i := by rw [iI_ix ⟨by omega, by omega⟩]; rfl
    have hv : vp_in (iI (i : Int)) n := iI_in (by omega) (by omega) (by omega)
    have e1 : iI (i : Int) + 1 = iI ((i + 1 : Nat) : Int) := by rw [show (1 : Int32) = iI 1 from by decide, iI_add]; congr 1
    refine bJ7_fill_53178_5 hi k1 ⟨fun c => ?_, fun _ => ⟨hv, ?_⟩⟩
    · rw [show Int32.ofNat n = iI n from (Int32.ofInt_eq_ofNat).symm, iI_le ⟨by omega, by omega⟩ ⟨by omega, by omega⟩] at c
      omega
    · rw [hx, e1]
      refine fill_loop k1 hn9 d (i + 1) _ (by omega) (show Iv h from hi) (fun h' hS h1 h2 => k h' ?_ ?_ ?_)
      · exact (Sm.pI Sm.rf (by simp) _ _).tr hS
      · intro j hj
        rw [h1 j (by omega), gI_pI, if_neg (by omega)]
      · intro j hj hj2
        by_cases hji : j = i
        · subst hji
          rw [h1 j (by omega), gI_pI, if_pos ⟨rfl, rfl⟩]
        · exact h2 j (by omega) hj2
theorem mJ7_fill {a n : Nat} {v : Int32} (hi : Iv h) (k1 : kd a = (100, n)) (hn9 : n ≤ 3000) (k : ∀ h', Sm (fun o => o == a) h h' → (∀ k, k < n → gI h' a k = v) → Q (.inl none) h') : WM G jJ7_fill_53178 [.ref a, .int v] h Q := by
  refine eJ7_fill_53178 hi k1 ?_
  rw [i32_0]
  exact fill_loop k1 hn9 n 0 h (by omega) hi (fun h' hS _ h2 => k h' hS (fun j hj => h2 j (by omega) hj))
/-- cells that are met, and how many -/
def hit (c : Nat → Nat) (lo : Nat) : Nat → Nat → Bool
  | 0, _ => false
  | n + 1, x => hit c lo n x || (c (lo + n) == x)
def cnt (f : Nat → Bool) : Nat → Nat
  | 0 => 0
  | n + 1 => cnt f n + (if f n then 1 else 0)
theorem cnt_le (f : Nat → Bool) : ∀ n, cnt f n ≤ n
  | 0 => Nat.le_refl _
  | n + 1 => by
    have := cnt_le f n
    unfold cnt
    split <;> omega
theorem cnt_cg {f g : Nat → Bool} : ∀ n, (∀ x, x < n → f x = g x) → cnt f n = cnt g n
  | 0, _ => rfl
  | n + 1, e => by
    unfold cnt
    rw [cnt_cg n (fun x hx => e x (by omega)), e n (by omega)]
/-- one more cell: it counts just if it was not there -/
theorem cnt_set {f : Nat → Bool} {c : Nat} : ∀ n, cnt (fun x => f x || (c == x)) n = cnt f n + (if c < n ∧ f c = false then 1 else 0)
  | 0 => by simp [cnt]
  | n + 1 => by
    unfold cnt
    rw [cnt_set n]
    by_cases hc : c = n
    · subst hc
      cases hf : f c <;> simp
    · have hb : (c == n) = false := by simpa using hc
      rw [hb, Bool.or_false]
      by_cases hcn : c < n
      · have : c < n + 1 := by omega
        simp only [hcn, this, true_and]
        omega
      · have : ¬ c < n + 1 := by omega
        simp only [hcn, this, false_and]
        simp
def ceF (h : mH) (r t : Nat) : Nat := (ceI (pnF h r 0 t) (pnF h r 1 t)).toNat
theorem ceF_b {r t : Nat} (hf : FR h r) (hc : CR h r) : ceF h r t ≤ 728 ∧ ceI (pnF h r 0 t) (pnF h r 1 t) = (ceF h r t : Nat) := by
  have b0 := pnF_b (t := t) hf hc (show 0 < 2 by omega)
  have b1 := pnF_b (t := t) hf hc (show 1 < 2 by omega)
  have := ceI_b b0.1 b0.2 b1.1 b1.2
  unfold ceF
  omega
theorem ceF_cg {S : Nat → Bool} {h h' : mH} (hS : Sm S h h') {r : Nat} (e : ∀ d, d ≤ 6 → S (r + d) = false) (t : Nat) : ceF h' r t = ceF h r t := by
  unfold ceF
  rw [pnF_cg hS e, pnF_cg hS e]
def crs (r o : Nat) : Bool := cr r o || (o == 81)
theorem crs_out {r : Nat} (k0 : kd r = (2, 11)) : ∀ d, d ≤ 6 → crs r (r + d) = false := by
  intro d hd
  rcases frc k0 with rfl | rfl | rfl | rfl <;> simp [crs, cr] <;> omega
theorem cr_81 {r : Nat} (k0 : kd r = (2, 11)) : cr r 81 = false := by
  rcases frc k0 with rfl | rfl | rfl | rfl <;> rfl
theorem or2 (a b : Int32) : (a ||| b) ||| b = a ||| b := by rw [Int32.or_assoc, Int32.or_self]
/-- markSeen(frame, from, to, bit) -/
theorem mX10_markSeen {r lo n : Nat} {b : Int32} (hi : Iv h) (k0 : kd r = (2, 11)) (hb : lo + n ≤ 10000) (hf : FR h r) (hc : CR h r) (hfd : FdOk h r)
    (k : ∀ h', Sm (crs r) h h' → FdOk h' r → (∀ x, x < 729 → gI h' 81 x = if hit (ceF h r) lo (n + 1) x then gI h 81 x ||| b else gI h 81 x) → Q (.inl none) h') : WM G jX10_markSeen [.ref 0, .ref r, .int (iI lo), .int (iI ((lo + n : Nat) : Int)), .int b] h Q := by
  refine eX10_markSeen hi k0 ?_
  have loop : ∀ m i : Nat, i + m = n + 1 → ∀ h1, Sm (crs r) h h1 → FdOk h1 r → (∀ x, x < 729 → gI h1 81 x = if hit (ceF h r) lo i x then gI h 81 x ||| b else gI h 81 x) → Vw G jX10_markSeen 3 [some (.ref 0), some (.ref r), none, some (.int (iI ((lo + n : Nat) : Int))), some (.int b), some (.int (iI ((lo + i : Nat) : Int))), none] [] h1 Q := by
    intro m
    induction m with
    | zero =>
      intro i him h1 hS1 hfd1 hx
      have : i = n + 1 := by omega
      subst this
      refine bX10_markSeen_3 (hS1.iv hi) k0 ⟨fun _ => k h1 hS1 hfd1 hx, fun c => absurd ?_ c⟩
      rw [iI_lt ⟨by omega, by omega⟩ ⟨by omega, by omega⟩]
      omega
    | succ m ih =>
      intro i him h1 hS1 hfd1 hx
      have hi1 := hS1.iv hi
      have hf1 := FR_cg hS1 (crs_out k0) hf
      have hc1 := CR_cg hS1 (crs_out k0) hc
      refine bX10_markSeen_3 hi1 k0 ⟨fun c => ?_, fun _ => mX2_cellAt hi1 k0 (by omega) hf1 hc1 hfd1 (fun h2 hS2 hfd2 => ?_)⟩
      · rw [iI_lt ⟨by omega, by omega⟩ ⟨by omega, by omega⟩] at c
        omega
      obtain ⟨hb1, hb2⟩ := ceF_b (t := lo + i) hf1 hc1
      rw [hb2]
      have hce : ceF h1 r (lo + i) = ceF h r (lo + i) := ceF_cg hS1 (crs_out k0) _
      rw [hce] at hb1 ⊢
      obtain ⟨c, hcc⟩ : ∃ c, c = ceF h r (lo + i) := ⟨_, rfl⟩
      rw [← hcc] at hb1 ⊢
      have hi2 := hS2.iv hi1
      have hcx : (iI (c : Int)).toNatClampNeg = c := by rw [iI_ix ⟨by omega, by omega⟩]; rfl
      have hv : vp_in (iI (c : Int)) 729 := iI_in (by omega) (by omega) (by omega)
      have e1 : iI ((lo + i : Nat) : Int) + 1 = iI ((lo + (i + 1) : Nat) : Int) := by rw [iI_lit 1, iI_add]; congr 1
      refine bX10_markSeen_15 hi2 k0 ⟨fun z => ?_, fun _ => ⟨hv, hv, ?_⟩⟩
      · rw [isCell_iff, iI_toInt ⟨by omega, by omega⟩] at z
        omega
      · rw [hcx]
        refine bX10_markSeen_37 (h := pI h2 81 c _) hi2 k0 ?_
        rw [e1]
        have hS2' : Sm (crs r) h1 h2 := hS2.wk (fun o ho => by unfold crs at ho; simp at ho; exact ho.1)
        have h81 : gI h2 81 c = gI h1 81 c := hS2.gI (cr_81 k0) c
        refine ih (i + 1) (by omega) _ ((hS1.tr hS2').pI (by simp [crs]) _ _) ?_ ?_
        · refine FdOk_cg (Sm.pI (S := fun o => o == 81) Sm.rf rfl _ _) (fun d d1 d2 => ?_) hfd2
          rcases frc k0 with rfl | rfl | rfl | rfl <;> simp <;> omega
        · intro x hx7
          rw [gI_pI]
          unfold hit
          by_cases hxc : x = c
          · subst hxc
            rw [if_pos ⟨rfl, rfl⟩, h81, hx x hx7, ← hcc]
            rw [show (x == x) = true from by simp, Bool.or_true, if_pos rfl]
            split
            · exact or2 _ _
            · rfl
          · rw [if_neg (by omega), hS2.gI (cr_81 k0) x, hx x hx7, ← hcc]
            rw [show (c == x) = false from by simpa using fun e => hxc e.symm, Bool.or_false]
  exact loop (n + 1) 0 (by omega) h Sm.rf hfd (fun x _ => rfl)
theorem mX10_cellsSeen {b : Int32} (hi : Iv h) (k : Q (.inl (some (.int (iI (cnt (fun x => gI h 81 x == b) 729 : Nat))))) h) : WM G jX10_cellsSeen [.ref 0, .int b] h Q := by
  refine eX10_cellsSeen hi ?_
  have loop : ∀ m i : Nat, i + m = 729 → Vw G jX10_cellsSeen 4 [some (.ref 0), some (.int b), some (.int (iI (cnt (fun x => gI h 81 x == b) i : Nat))), some (.int (iI i))] [] h Q := by
    intro m
    induction m with
    | zero =>
      intro i him
      have : i = 729 := by omega
      subst this
      exact bX10_cellsSeen_4 hi ⟨fun _ => k, fun c => absurd (by decide) c⟩
    | succ m ih =>
      intro i him
      have hix : (iI (i : Int)).toNatClampNeg = i := by rw [iI_ix ⟨by omega, by omega⟩]; rfl
      have e1 : iI (i : Int) + 1 = iI ((i + 1 : Nat) : Int) := by rw [iI_lit 1, iI_add]; congr 1
      refine bX10_cellsSeen_4 hi ⟨fun c => ?_, fun _ => ⟨iI_in (by omega) (by omega) (by omega), fun c => ?_, fun c => ?_⟩⟩
      · rw [show (729 : Int32) = iI 729 from by decide, iI_le ⟨by decide, by decide⟩ ⟨by omega, by omega⟩] at c
        omega
      · rw [hix] at c
        refine bX10_cellsSeen_24 hi ?_
        have := ih (i + 1) (by omega)
        unfold cnt at this
        rw [e1]
        rw [if_neg (by simpa using c), Nat.add_zero] at this
        exact this
      · rw [hix] at c
        refine bX10_cellsSeen_24 hi ?_
        have := ih (i + 1) (by omega)
        unfold cnt at this
        rw [e1]
        rw [if_pos (by simpa using c)] at this
        rw [show iI (cnt (fun x => gI h 81 x == b) i : Nat) + 1 = iI ((cnt (fun x => gI h 81 x == b) i + 1 : Nat) : Int) from by rw [iI_lit 1, iI_add]; congr 1]
        exact this
  exact loop 729 0 (by omega)
end DRAWN
