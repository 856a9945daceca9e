section PERFC6
variable {G : GX} {h : mH} {Q : mO → mH → Prop}
/-- the world and the settings that a performance begins with -/
def wlC (h : mH) : WL := (fun p => if p < 4 then (gI h 4 p).toInt else 0, fun p => if p < 4 then (gI h 5 p).toInt else 0, fun p => if p < 4 then (gI h 6 p).toInt else 0, (gI h 3 5).toInt.toNat, fun i => if i < (gI h 3 5).toInt.toNat then (gI h 8 i).toInt else 0, fun i a => if i < (gI h 3 5).toInt.toNat ∧ a < 2 then (gI h 9 (2 * i + a)).toInt else 0)
def stC (h : mH) : Nat → Int := fun i => if i < 12 then (gI h 7 i).toInt else 0
def plP (W : WL) (sc : PF) (st0 : Nat → Int) : Option PS := ruP W sc.2.1 sc.1 1000000 (0, 0, 0, false, st0, fun _ => 0, fun _ => 0)
theorem wlC_R (f3 : FR h 3) (c3 : CR h 3) : WR (wlC h) ∧ StR (stC h) := by
  refine ⟨⟨fun p hp => ?_, ?_, fun i hi => ?_⟩, fun p hp => ?_⟩
  · obtain ⟨a1, a2, a3, _⟩ := f3 p hp
    unfold wlC
    simp only
    rw [if_pos hp, if_pos hp, if_pos hp]
    exact ⟨a1, a2, a3⟩
  · have := c3.1
    unfold rg at this
    show (gI h 3 5).toInt.toNat ≤ 4
    omega
  · have hi' : i < (gI h 3 5).toInt.toNat := hi
    obtain ⟨a1, a2⟩ := c3.2 i hi'
    unfold wlC
    simp only
    rw [if_pos hi']
    refine ⟨a1, fun a ha => ?_⟩
    rw [if_pos ⟨hi', ha⟩]
    exact a2 a ha
  · obtain ⟨_, _, _, a4, a5, a6⟩ := f3 p hp
    rw [Nat.zero_add] at a4 a5 a6
    unfold stC
    rw [if_pos (by omega), if_pos (by omega), if_pos (by omega)]
    exact ⟨a4, a5, a6⟩
def plS (o k : Nat) : Bool := pfS o k || (mr 56 o || (o == 55 && (k == 8)))
theorem mX6_play {r : Nat} {ch : Int32} {sc : PF} (hi : Iv h) (hr : r = 43 ∨ r = 49) (kr : kd r = (7, 7)) (hF : WF sc) (hR : SRw r sc h) (f3 : FR h 3) (c3 : CR h 3) (fd : FdOk h 56)
    (k : ∀ g, gI h 55 8 ≠ ch → Ce plS h g → gI g 55 8 = ch → OuC sc.2.1 sc.1 (wlC h) (plP (wlC h) sc (stC h)) g → Q (.inl none) g)
    (kc : gI h 55 8 = ch → Q (.inl none) h) : WM G jX6_play [.ref 55, .ref r, .ref 3, .int ch] h Q := by
  obtain ⟨wr, sr⟩ := wlC_R f3 c3
  refine eX6_play hi kr rfl ⟨fun c => ?_, fun c => kc c⟩
  have hi0 : Iv (pI h 55 8 ch) := hi
  have w0 : ∀ o k, o ≠ 55 → gI (pI h 55 8 ch) o k = gI h o k := fun o k ho => by rw [gI_pI, if_neg (fun e => ho e.1)]
  refine mX2_copy (.inr (.inr (.inr ⟨rfl, rfl⟩))) hi0 (fun g1 S1 F1 => ?_)
  have i1 := S1.iv hi0
  refine bX6_play_22 i1 kr (mJ7_fill (n := 729) i1 rfl (by omega) (fun g2 S2 E2 => ?_))
  have i2 := S2.iv i1
  refine bX6_play_30 i2 kr ?_
  generalize hg3 : pI (pI (pI (pI (pI g2 55 2 0) 55 3 0) 55 4 0) 55 6 0) 55 5 0 = g3
  have C3 : Ce plS h g3 := by
    rw [← hg3]
    refine Ce.pI (Ce.pI (Ce.pI (Ce.pI (Ce.pI (Ce.tr (Ce.tr (Ce.rf.pI (o := 55) (k := 8) rfl ch) (Ce.sm S1 (fun o k ho => ?_))) (Ce.sm S2 (fun o k ho => ?_))) rfl _) rfl _) rfl _) rfl _) rfl _
    · unfold plS at ho
      rw [Bool.or_eq_false_iff, Bool.or_eq_false_iff] at ho
      exact ho.2.1
    · unfold plS pfS drS at ho
      simp at ho ⊢
      omega
  have i3 := C3.iv hi
  have w3 : ∀ o k, o ≠ 55 → o ≠ 66 → gI g3 o k = gI g1 o k := fun o k h1 h2 => by
    rw [← hg3, gI_pI, if_neg (by omega), gI_pI, if_neg (by omega), gI_pI, if_neg (by omega), gI_pI, if_neg (by omega), gI_pI, if_neg (by omega), S2.gI (by simpa using h2)]
  have e8 : gI g3 55 8 = ch := by
    rw [← hg3, gI_pI, if_neg (by omega), gI_pI, if_neg (by omega), gI_pI, if_neg (by omega), gI_pI, if_neg (by omega), gI_pI, if_neg (by omega), S2.gI (o := 55) rfl, S1.gI (o := 55) rfl, gI_pI, if_pos ⟨rfl, rfl⟩]
  have e2 : gI g3 55 2 = 0 := by rw [← hg3]; simp [gI_pI]
  have e3 : gI g3 55 3 = 0 := by rw [← hg3]; simp [gI_pI]
  have e4 : gI g3 55 4 = 0 := by rw [← hg3]; simp [gI_pI]
  have e5 : gI g3 55 5 = 0 := by rw [← hg3]; simp [gI_pI]
  have e6 : gI g3 55 6 = 0 := by rw [← hg3]; simp [gI_pI]
  have e66 : ∀ c, c < 729 → gI g3 66 c = 0 := fun c hc => by
    rw [← hg3, gI_pI, if_neg (by omega), gI_pI, if_neg (by omega), gI_pI, if_neg (by omega), gI_pI, if_neg (by omega), gI_pI, if_neg (by omega)]
    exact E2 c hc
  clear hg3
  obtain ⟨d1, d2, d3, d4, d5⟩ := F1
  have hs1 : ∀ x : Int32, x = iI x.toInt := fun x => (iI_self x).symm
  have nc4 : (gI h 3 5).toInt.toNat ≤ 4 := wr.2.1
  have X3 : WX (wlC h) (stC h) g3 := by
    refine ⟨fun p hp => ?_, ?_, fun i hi => ?_, fun i hi => ?_, ?_⟩
    · obtain ⟨a1, a2, a3, _⟩ := d1 p hp
      unfold wlC
      simp only
      rw [if_pos hp, if_pos hp, if_pos hp, iI_self, iI_self, iI_self, w3 57 p (by omega) (by omega), w3 58 p (by omega) (by omega), w3 59 p (by omega) (by omega)]
      exact ⟨a1.trans (w0 4 p (by omega)), a2.trans (w0 5 p (by omega)), a3.trans (w0 6 p (by omega))⟩
    · rw [w3 56 5 (by omega) (by omega), d5, w0 3 5 (by omega)]
      have := c3.1
      unfold rg at this
      show gI h 3 5 = iI (((gI h 3 5).toInt.toNat : Nat) : Int)
      rw [show (((gI h 3 5).toInt.toNat : Nat) : Int) = (gI h 3 5).toInt from by omega, iI_self]
    · have hi' : i < (gI h 3 5).toInt.toNat := hi
      obtain ⟨_, _, _, a4⟩ := d1 i (by omega)
      unfold wlC
      simp only
      rw [if_pos hi', iI_self, w3 61 i (by omega) (by omega)]
      refine ⟨a4.trans (w0 8 i (by omega)), fun a ha => ?_⟩
      rw [if_pos ⟨hi', ha⟩, iI_self, w3 62 _ (by omega) (by omega)]
      exact (d3 (2 * i + a) (by omega)).trans (w0 9 _ (by omega))
    · unfold stC
      rw [if_pos hi, iI_self, w3 60 i (by omega) (by omega)]
      exact (d2 i hi).trans (w0 7 i (by omega))
    · refine FdOk_c (fun o k h1 h2 => ?_) fd
      rw [w3 o k (by omega) (by omega), S1.gI (by unfold mr; exact decide_eq_false (by omega)), w0 o k (by omega)]
  have M3 : MkC (fun _ => 0) g3 := by
    refine ⟨fun c hc => by rw [e66 c hc]; exact n_0, ?_⟩
    rw [e2, cnt_0 729 (fun j hj => by simp)]
    exact n_0
  have SR3 : SRw r sc g3 := by
    have q : ∀ o k, 43 ≤ o → o ≤ 54 → gI g3 o k = gI h o k := fun o k h1 h2 => C3.2.2 o k (by unfold plS pfS drS mr; simp; omega)
    exact ⟨by rw [q r 4 (by omega) (by omega)]; exact hR.1, fun a i ha hi => by rw [q _ _ (by omega) (by omega)]; exact hR.2 a i ha hi⟩
  have lp := mX6_loop (G := G) (Q := Q) (x := plP (wlC h) sc (stC h)) g3 i3 hr kr wr hF SR3 (fun g C O => k g c (C3.tr (C.wk (fun o k ho => by unfold plS at ho; rw [Bool.or_eq_false_iff] at ho; exact ho.1))) (by rw [C.2.2 55 8 rfl]; exact e8) O) 1000000 0 (0, 0, 0, false, stC h, fun _ => 0, fun _ => 0) g3 (by omega) Ce.rf ⟨Nat.zero_le _, Nat.zero_le _, Nat.zero_le _, sr, fun _ => Nat.le_refl _, fun o ho => by cases ho⟩ ⟨X3, by rw [e3]; exact n_0, by rw [e4]; exact n_0, e5, e6, M3⟩ (fun o ho => by cases ho) rfl
  rw [n_0]
  exact lp
end PERFC6
