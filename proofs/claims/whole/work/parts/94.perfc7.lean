section PERFC7
variable {G : GX} {h : mH} {Q : mO → mH → Prop}
/-- what is answered of a performance -/
def pfV (W : WL) (x : Option PS) (w : Int32) : Int := match x with
  | none => -2
  | some s => if w = 0 then (s.2.1 : Nat) else if w = 1 then (cnt (fun c => decide (0 < s.2.2.2.2.2.1 c)) 729 : Nat) else if w = 2 then (s.2.2.1 : Nat) else (cW W s.2.2.2.2.1 s.2.2.2.1 s.2.2.1 : Nat)
def mkV (x : Option PS) (c : Nat) : Int := match x with
  | none => -2
  | some s => (s.2.2.2.2.2.1 c : Nat)
theorem Ce_pl {a b : mH} (hS : Sm (cr 56) a b) : Ce plS a b := (dr_pf (cr_dr hS)).wk (fun o k ho => by unfold plS at ho; rw [Bool.or_eq_false_iff] at ho; exact ho.1)
theorem mX10_performed {r : Nat} {v : Int32} {sc : PF} (hi : Iv h) (hA : gR h 0 7 = .ref r) (hr : r = 43 ∨ r = 49) (hF : WF sc) (hR : SRw r sc h) (f3 : FR h 3) (c3 : CR h 3) (fd : FdOk h 56) (hca : gI h 55 8 = gI h 0 16 → OuC sc.2.1 sc.1 (wlC h) (plP (wlC h) sc (stC h)) h)
    (kN : ¬ (0 ≤ v.toInt ∧ v.toInt ≤ 3) → Th eN h Q)
    (k : ∀ g, (0 ≤ v.toInt ∧ v.toInt ≤ 3) → Ce plS h g → gI g 55 8 = gI h 0 16 → OuC sc.2.1 sc.1 (wlC h) (plP (wlC h) sc (stC h)) g → Q (.inl (some (.int (iI (pfV (wlC h) (plP (wlC h) sc (stC h)) v))))) g) : WM G jX10_performed [.ref 0, .int v] h Q := by
  obtain ⟨wr, sr⟩ := wlC_R f3 c3
  have kr : kd r = (7, 7) := by rcases hr with rfl | rfl <;> rfl
  refine eX10_performed hi ?_
  rw [show (3 : Int32) = iI 3 from by decide]
  refine mX10_needWhat ⟨by decide, by decide⟩ hi (fun v1 v2 => ?_) kN
  have go : ∀ g, Ce plS h g → gI g 55 8 = gI h 0 16 → OuC sc.2.1 sc.1 (wlC h) (plP (wlC h) sc (stC h)) g → Vw G jX10_performed 24 [some (.ref 0), some (.int v)] [] g Q := fun g C e8 O => by
    have gi := C.iv hi
    have k' := k g ⟨v1, v2⟩ C e8 O
    refine bX10_performed_24 gi ?_
    cases hx : plP (wlC h) sc (stC h) with
    | none =>
      rw [hx] at O k'
      obtain ⟨_, o5⟩ := O
      rw [o5]
      exact ⟨fun w => absurd w (by decide), fun _ => k'⟩
    | some s =>
      rw [hx] at O
      obtain ⟨I, P⟩ := id O
      obtain ⟨x, a, b4, c, d, e⟩ := id P
      rw [c]
      refine ⟨fun _ => ?_, fun w => absurd rfl w⟩
      rw [hx] at k'
      unfold pfV at k'
      simp only at k'
      refine ⟨fun w => ?_, fun w => ?_, fun w => ?_, fun w0 w1 w2 => ?_⟩
      · rw [if_pos w] at k'
        rw [a]; exact k'
      · rw [if_neg (by rw [w]; decide), if_pos w] at k'
        rw [e.2]; exact k'
      · rw [if_neg (by rw [w]; decide), if_neg (by rw [w]; decide), if_pos w] at k'
        rw [b4]; exact k'
      · obtain ⟨_, _, p3, p4, _, _⟩ := id I
        refine mX6_cell gi wr p4 x p3 b4 d (fun g2 S2 X2 => ?_)
        have P2 := CPr_S S2 X2 P
        have k2 := k g2 ⟨v1, v2⟩ (C.tr (Ce_pl S2)) (by rw [S2.gI (o := 55) rfl]; exact e8) (by rw [hx]; exact ⟨I, P2⟩)
        rw [hx] at k2
        unfold pfV at k2
        simp only at k2
        rw [if_neg w0, if_neg w1, if_neg w2] at k2
        exact bX10_performed_95 (S2.iv gi) k2
  refine bX10_performed_5 hi hA kr (mX6_play hi hr kr hF hR f3 c3 fd (fun g c C e8 O => go g C e8 O) (fun c => go h Ce.rf c (hca c)))
theorem mX10_marks {r : Nat} {v : Int32} {sc : PF} (hi : Iv h) (hA : gR h 0 7 = .ref r) (hr : r = 43 ∨ r = 49) (hF : WF sc) (hR : SRw r sc h) (f3 : FR h 3) (c3 : CR h 3) (fd : FdOk h 56) (hca : gI h 55 8 = gI h 0 16 → OuC sc.2.1 sc.1 (wlC h) (plP (wlC h) sc (stC h)) h)
    (kN : ¬ (0 ≤ v.toInt ∧ v.toInt ≤ 728) → Th eN h Q)
    (k : ∀ g, (0 ≤ v.toInt ∧ v.toInt ≤ 728) → Ce plS h g → gI g 55 8 = gI h 0 16 → OuC sc.2.1 sc.1 (wlC h) (plP (wlC h) sc (stC h)) g → Q (.inl (some (.int (iI (mkV (plP (wlC h) sc (stC h)) v.toInt.toNat))))) g) : WM G jX10_marks [.ref 0, .int v] h Q := by
  have kr : kd r = (7, 7) := by rcases hr with rfl | rfl <;> rfl
  refine eX10_marks hi (mX10_needCell hi (fun v1 v2 => ?_) kN)
  have go : ∀ g, Ce plS h g → gI g 55 8 = gI h 0 16 → OuC sc.2.1 sc.1 (wlC h) (plP (wlC h) sc (stC h)) g → Vw G jX10_marks 23 [some (.ref 0), some (.int v)] [] g Q := fun g C e8 O => by
    have gi := C.iv hi
    have k' := k g ⟨v1, v2⟩ C e8 O
    have ev := i32_nat v1
    refine bX10_marks_23 gi ?_
    cases hx : plP (wlC h) sc (stC h) with
    | none =>
      rw [hx] at O k'
      obtain ⟨_, o5⟩ := O
      rw [o5]
      exact ⟨fun w => absurd w (by decide), fun _ => k'⟩
    | some s =>
      rw [hx] at O k'
      obtain ⟨I, P⟩ := O
      obtain ⟨x, a, b4, c, d, e⟩ := P
      rw [c]
      refine ⟨fun _ => ?_, fun w => absurd rfl w⟩
      generalize hn : v.toInt.toNat = n at *
      subst ev
      have n729 : n < 729 := by omega
      rw [ix_n (by omega), e.1 n n729]
      exact ⟨in_n n729 (by omega), k'⟩
  refine bX10_marks_4 hi hA kr (mX6_play hi hr kr hF hR f3 c3 fd (fun g c C e8 O => go g C e8 O) (fun c => go h Ce.rf c (hca c)))
end PERFC7
