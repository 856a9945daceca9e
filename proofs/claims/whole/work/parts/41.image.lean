section IMAGE
variable {G : GX} {h : mH} {Q : mO → mH → Prop}
def mh (r o : Nat) : Bool := decide (r ≤ o ∧ o ≤ r + 4)
/-- holdings a of h' are holdings b of h -/
def SmH (h h' : mH) (a b : Nat) : Prop := (∀ k, k < 12 → gI h' (a + 1) k = gI h (b + 1) k) ∧ (∀ k, k < 96 → gI h' (a + 2) k = gI h (b + 2) k) ∧ (∀ k, k < 18 → gI h' (a + 3) k = gI h (b + 3) k) ∧ (∀ k, k < 10 → gI h' (a + 4) k = gI h (b + 4) k) ∧ gI h' a 1 = gI h b 1 ∧ gI h' a 3 = gI h b 3 ∧ gI h' a 5 = gI h b 5
theorem mX3_copy {a b : Nat} (hab : (a = 33 ∧ b = 38) ∨ (a = 38 ∧ b = 33)) (hi : Iv h) (k : ∀ h', Sm (mh a) h h' → SmH h h' a b → Q (.inl none) h') : WM G jX3_copy [.ref a, .ref b] h Q := by
  have ka : kd a = (3, 7) := by rcases hab with ⟨rfl, _⟩ | ⟨rfl, _⟩ <;> rfl
  have kb : kd b = (3, 7) := by rcases hab with ⟨_, rfl⟩ | ⟨_, rfl⟩ <;> rfl
  refine eX3_copy hi ka kb (k _ ?_ ?_)
  · have m : ∀ d, d ≤ 4 → mh a (a + d) = true := fun d hd => by unfold mh; simp; omega
    exact (((((((Sm.rf.pA (m 1 (by omega)) _).pI (m 0 (by omega)) _ _).pA (m 2 (by omega)) _).pI (m 0 (by omega)) _ _).pA (m 3 (by omega)) _).pI (m 0 (by omega)) _ _).pA (m 4 (by omega)) _)
  · clear k
    rcases hab with ⟨rfl, rfl⟩ | ⟨rfl, rfl⟩ <;>
    · refine ⟨fun k hk => ?_, fun k hk => ?_, fun k hk => ?_, fun k hk => ?_, ?_, ?_, ?_⟩ <;> simp [gI_pA, gI_pI, va_cpy] <;> omega
def imS (o k : Nat) : Bool := o == 34 || (mh 38 o || (o == 0 && (k == 6)))
theorem mX10_image (hi : Iv h) (k : ∀ h', Ce imS h h' → (∀ k, k < 12 → gI h' 39 k = gI h 7 k) → (∀ k, k < 96 → gI h' 40 k = gI h 35 k) → (∀ k, k < 18 → gI h' 41 k = gI h 36 k) → (∀ k, k < 10 → gI h' 42 k = gI h 37 k) → (gI h' 38 1 = gI h 33 1 ∧ gI h' 38 3 = gI h 33 3 ∧ gI h' 38 5 = gI h 33 5 ∧ gI h' 0 6 = 1) → Q (.inl none) h') : WM G jX10_image [.ref 0] h Q := by
  refine eX10_image hi (mX3_copy (.inr ⟨rfl, rfl⟩) (h := pA h 34 (va_cpy (gI h 7) (gI h 34) 0 0 12)) hi (fun h2 hS hH => ?_))
  have hS1 : Sm (fun o => o == 34) h (pA h 34 (va_cpy (gI h 7) (gI h 34) 0 0 12)) := Sm.rf.pA rfl _
  refine bX10_image_32 (hS.iv (show Iv (pA h 34 (va_cpy (gI h 7) (gI h 34) 0 0 12)) from hi)) (k _ ?_ ?_ ?_ ?_ ?_ ?_)
  · refine Ce.pI ?_ rfl _
    refine (Ce.sm hS1 ?_).tr (Ce.sm hS ?_)
    · intro o k ho; unfold imS at ho; simp at ho ⊢; exact ho.1
    · intro o k ho; unfold imS at ho; simp at ho ⊢; exact ho.2.1
  · intro j hj
    rw [gI_pI, if_neg (by omega), hH.1 j hj, gI_pA, if_pos rfl]
    exact cpy_lt hj
  · intro j hj
    rw [gI_pI, if_neg (by omega), hH.2.1 j hj, gI_pA, if_neg (by omega)]
  · intro j hj
    rw [gI_pI, if_neg (by omega), hH.2.2.1 j hj, gI_pA, if_neg (by omega)]
  · intro j hj
    rw [gI_pI, if_neg (by omega), hH.2.2.2.1 j hj, gI_pA, if_neg (by omega)]
  · obtain ⟨a1, a2, a3⟩ := hH.2.2.2.2
    refine ⟨?_, ?_, ?_, ?_⟩
    · rw [gI_pI, if_neg (by omega), a1, gI_pA, if_neg (by omega)]
    · rw [gI_pI, if_neg (by omega), a2, gI_pA, if_neg (by omega)]
    · rw [gI_pI, if_neg (by omega), a3, gI_pA, if_neg (by omega)]
    · rw [gI_pI, if_pos ⟨rfl, rfl⟩]
def reS (o k : Nat) : Bool := o == 7 || (mh 33 o || (o == 0 && (k == 16)))
theorem mX10_restore (hi : Iv h) (k0 : gI h 0 6 = 0 → Q (.inl (some (.int 0))) h) (k : gI h 0 6 ≠ 0 → ∀ h', Ce reS h h' → (∀ k, k < 12 → gI h' 7 k = gI h 39 k) → (∀ k, k < 96 → gI h' 35 k = gI h 40 k) → (∀ k, k < 18 → gI h' 36 k = gI h 41 k) → (∀ k, k < 10 → gI h' 37 k = gI h 42 k) → (gI h' 33 1 = gI h 38 1 ∧ gI h' 33 3 = gI h 38 3 ∧ gI h' 33 5 = gI h 38 5 ∧ gI h' 0 16 = gI h 0 16 + 1) → Q (.inl (some (.int 1))) h') : WM G jX10_restore [.ref 0] h Q := by
  refine eX10_restore hi ⟨fun c => mX3_copy (.inl ⟨rfl, rfl⟩) hi (fun h2 hS hH => ?_), k0⟩
  refine bX10_restore_20 (hS.iv hi) ?_
  have hS1 : Sm (fun o => o == 7) h2 (pA h2 7 (va_cpy (gI h2 34) (gI h2 7) 0 0 12)) := Sm.rf.pA rfl _
  have e16 : gI (pA h2 7 (va_cpy (gI h2 34) (gI h2 7) 0 0 12)) 0 16 = gI h 0 16 := by rw [hS1.gI (o := 0) rfl, hS.gI (o := 0) rfl]
  rw [e16]
  refine k c _ ?_ ?_ ?_ ?_ ?_ ?_
  · refine Ce.pI ?_ rfl _
    refine (Ce.sm hS ?_).tr (Ce.sm hS1 ?_)
    · intro o k ho; unfold reS at ho; simp at ho ⊢; exact ho.2.1
    · intro o k ho; unfold reS at ho; simp at ho ⊢; exact ho.1
  · intro j hj
    rw [gI_pI, if_neg (by omega), gI_pA, if_pos rfl, cpy_lt hj]
    exact hH.1 j hj
  · intro j hj
    rw [gI_pI, if_neg (by omega), gI_pA, if_neg (by omega)]
    exact hH.2.1 j hj
  · intro j hj
    rw [gI_pI, if_neg (by omega), gI_pA, if_neg (by omega)]
    exact hH.2.2.1 j hj
  · intro j hj
    rw [gI_pI, if_neg (by omega), gI_pA, if_neg (by omega)]
    exact hH.2.2.2.1 j hj
  · obtain ⟨a1, a2, a3⟩ := hH.2.2.2.2
    refine ⟨?_, ?_, ?_, ?_⟩
    · rw [gI_pI, if_neg (by omega), gI_pA, if_neg (by omega)]; exact a1
    · rw [gI_pI, if_neg (by omega), gI_pA, if_neg (by omega)]; exact a2
    · rw [gI_pI, if_neg (by omega), gI_pA, if_neg (by omega)]; exact a3
    · rw [gI_pI, if_pos ⟨rfl, rfl⟩]
def imM (o k : Nat) : Bool := (o == 83 && (k == 0 || (k == 55))) || decide (111 ≤ o ∧ o ≤ 115)
theorem mX11_image (hi : Iv h) (k : ∀ h', Ce imM h h' → (∀ k, k < 12 → gI h' 112 k = gI h 87 k) → (∀ k, k < 96 → gI h' 113 k = gI h 97 k) → (∀ k, k < 18 → gI h' 114 k = gI h 99 k) → (∀ k, k < 10 → gI h' 115 k = gI h 101 k) → (gI h' 111 0 = gI h 83 30 ∧ gI h' 111 1 = gI h 83 33 ∧ gI h' 111 2 = gI h 83 36 ∧ gI h' 83 55 = 1 ∧ gI h' 83 0 = 0) → Q (.inl none) h') : WM G jX11_image [.ref 83] h Q := by
  refine eX11_image hi ?_
  have r1 : ∀ (g : mH) (j : Nat) (v : Int32) (i : Nat), gI (pI g 111 j v) 83 i = gI g 83 i := fun g j v i => by rw [gI_pI, if_neg (by omega)]
  have r2 : ∀ i : Nat, i ≠ 0 → i ≠ 55 → gI (pI (pI h 83 0 0) 83 55 1) 83 i = gI h 83 i := fun i h1 h2 => by rw [gI_pI, if_neg (by omega), gI_pI, if_neg (by omega)]
  rw [r1, r1, r1, r2 30 (by omega) (by omega), r2 33 (by omega) (by omega), r2 36 (by omega) (by omega)]
  generalize hg : pI (pI (pI (pI (pI h 83 0 0) 83 55 1) 111 0 (gI h 83 30)) 111 1 (gI h 83 33)) 111 2 (gI h 83 36) = g
  have hC : Ce imM h g := by rw [← hg]; exact ((((Ce.rf.pI rfl _).pI rfl _).pI rfl _).pI rfl _).pI rfl _
  have hgi := hC.iv hi
  have f0 : gI g 111 0 = gI h 83 30 := by rw [← hg, gI_pI, if_neg (by omega), gI_pI, if_neg (by omega), gI_pI, if_pos ⟨rfl, rfl⟩]
  have f1 : gI g 111 1 = gI h 83 33 := by rw [← hg, gI_pI, if_neg (by omega), gI_pI, if_pos ⟨rfl, rfl⟩]
  have f2 : gI g 111 2 = gI h 83 36 := by rw [← hg, gI_pI, if_pos ⟨rfl, rfl⟩]
  have f3 : gI g 83 55 = 1 := by rw [← hg, r1, r1, r1, gI_pI, if_pos ⟨rfl, rfl⟩]
  have f4 : gI g 83 0 = 0 := by rw [← hg, r1, r1, r1, gI_pI, if_neg (by omega), gI_pI, if_pos ⟨rfl, rfl⟩]
  clear hg
  refine mX11_copies hgi (a := 87) (b := 112) (n := 12) rfl rfl (by omega) (by omega) (fun h1 hS1 q1 => ?_)
  have i1 := hS1.iv hgi
  refine bX11_image_52 i1 (mX11_copies i1 (a := 97) (b := 113) (n := 96) rfl rfl (by omega) (by omega) (fun h2 hS2 q2 => ?_))
  have i2 := hS2.iv i1
  refine bX11_image_64 i2 (mX11_copies i2 (a := 99) (b := 114) (n := 18) rfl rfl (by omega) (by omega) (fun h3 hS3 q3 => ?_))
  have i3 := hS3.iv i2
  refine bX11_image_76 i3 (mX11_copies i3 (a := 101) (b := 115) (n := 10) rfl rfl (by omega) (by omega) (fun h4 hS4 q4 => ?_))
  refine bX11_image_88 (hS4.iv i3) (k h4 ?_ ?_ ?_ ?_ ?_ ?_)
  · refine (((hC.tr (Ce.sm hS1 ?_)).tr (Ce.sm hS2 ?_)).tr (Ce.sm hS3 ?_)).tr (Ce.sm hS4 ?_)
    all_goals intro o k ho; unfold imM at ho; simp at ho ⊢; omega
  · intro j hj
    rw [hS4.gI (o := 112) rfl, hS3.gI (o := 112) rfl, hS2.gI (o := 112) rfl, q1 j hj]
    exact hC.2.2 _ _ rfl
  · intro j hj
    rw [hS4.gI (o := 113) rfl, hS3.gI (o := 113) rfl, q2 j hj, hS1.gI (o := 97) rfl]
    exact hC.2.2 _ _ rfl
  · intro j hj
    rw [hS4.gI (o := 114) rfl, q3 j hj, hS2.gI (o := 99) rfl, hS1.gI (o := 99) rfl]
    exact hC.2.2 _ _ rfl
  · intro j hj
    rw [q4 j hj, hS3.gI (o := 101) rfl, hS2.gI (o := 101) rfl, hS1.gI (o := 101) rfl]
    exact hC.2.2 _ _ rfl
  · have s : ∀ o j, o < 112 → gI h4 o j = gI g o j := fun o j ho => by
      rw [hS4.gI (o := o) (by simp; omega), hS3.gI (o := o) (by simp; omega), hS2.gI (o := o) (by simp; omega), hS1.gI (o := o) (by simp; omega)]
    rw [s 111 0 (by omega), s 111 1 (by omega), s 111 2 (by omega), s 83 55 (by omega), s 83 0 (by omega)]
    exact ⟨f0, f1, f2, f3, f4⟩
def reM (o k : Nat) : Bool := (o == 83 && (k == 0 || (k == 30 || (k == 33 || (k == 36))))) || (o == 87 || (o == 97 || (o == 99 || (o == 101))))
theorem mX11_restore (hi : Iv h) (k0 : gI h 83 55 = 0 → Q (.inl (some (.int 0))) (pI h 83 0 0)) (k : gI h 83 55 ≠ 0 → ∀ h', Ce reM h h' → (∀ k, k < 12 → gI h' 87 k = gI h 112 k) → (∀ k, k < 96 → gI h' 97 k = gI h 113 k) → (∀ k, k < 18 → gI h' 99 k = gI h 114 k) → (∀ k, k < 10 → gI h' 101 k = gI h 115 k) → (gI h' 83 30 = gI h 111 0 ∧ gI h' 83 33 = gI h 111 1 ∧ gI h' 83 36 = gI h 111 2 ∧ gI h' 83 0 = 0) → Q (.inl (some (.int 1))) h') : WM G jX11_restore [.ref 83] h Q := by
  have e55 : gI (pI h 83 0 0) 83 55 = gI h 83 55 := by rw [gI_pI, if_neg (by omega)]
  refine eX11_restore hi ?_
  rw [e55]
  refine ⟨fun c => ?_, k0⟩
  have r1 : ∀ (g : mH) (j : Nat) (v : Int32) (i : Nat), gI (pI g 83 j v) 111 i = gI g 111 i := fun g j v i => by rw [gI_pI, if_neg (by omega)]
  rw [r1, r1, r1, r1, r1, r1]
  generalize hg : pI (pI (pI (pI h 83 0 0) 83 30 (gI h 111 0)) 83 33 (gI h 111 1)) 83 36 (gI h 111 2) = g
  have hC : Ce reM h g := by rw [← hg]; exact (((Ce.rf.pI rfl _).pI rfl _).pI rfl _).pI rfl _
  have hgi := hC.iv hi
  have f0 : gI g 83 30 = gI h 111 0 := by rw [← hg, gI_pI, if_neg (by omega), gI_pI, if_neg (by omega), gI_pI, if_pos ⟨rfl, rfl⟩]
  have f1 : gI g 83 33 = gI h 111 1 := by rw [← hg, gI_pI, if_neg (by omega), gI_pI, if_pos ⟨rfl, rfl⟩]
  have f2 : gI g 83 36 = gI h 111 2 := by rw [← hg, gI_pI, if_pos ⟨rfl, rfl⟩]
  have f4 : gI g 83 0 = 0 := by rw [← hg, gI_pI, if_neg (by omega), gI_pI, if_neg (by omega), gI_pI, if_neg (by omega), gI_pI, if_pos ⟨rfl, rfl⟩]
  clear hg
  refine mX11_copies hgi (a := 112) (b := 87) (n := 12) rfl rfl (by omega) (by omega) (fun h1 hS1 q1 => ?_)
  have i1 := hS1.iv hgi
  refine bX11_restore_56 i1 (mX11_copies i1 (a := 113) (b := 97) (n := 96) rfl rfl (by omega) (by omega) (fun h2 hS2 q2 => ?_))
  have i2 := hS2.iv i1
  refine bX11_restore_68 i2 (mX11_copies i2 (a := 114) (b := 99) (n := 18) rfl rfl (by omega) (by omega) (fun h3 hS3 q3 => ?_))
  have i3 := hS3.iv i2
  refine bX11_restore_80 i3 (mX11_copies i3 (a := 115) (b := 101) (n := 10) rfl rfl (by omega) (by omega) (fun h4 hS4 q4 => ?_))
  refine bX11_restore_92 (hS4.iv i3) (k c h4 ?_ ?_ ?_ ?_ ?_ ?_)
  · refine (((hC.tr (Ce.sm hS1 ?_)).tr (Ce.sm hS2 ?_)).tr (Ce.sm hS3 ?_)).tr (Ce.sm hS4 ?_)
    all_goals intro o k ho; unfold reM at ho; simp at ho ⊢; omega
  · intro j hj
    rw [hS4.gI (o := 87) rfl, hS3.gI (o := 87) rfl, hS2.gI (o := 87) rfl, q1 j hj]
    exact hC.2.2 _ _ rfl
  · intro j hj
    rw [hS4.gI (o := 97) rfl, hS3.gI (o := 97) rfl, q2 j hj, hS1.gI (o := 113) rfl]
    exact hC.2.2 _ _ rfl
  · intro j hj
    rw [hS4.gI (o := 99) rfl, q3 j hj, hS2.gI (o := 114) rfl, hS1.gI (o := 114) rfl]
    exact hC.2.2 _ _ rfl
  · intro j hj
    rw [q4 j hj, hS3.gI (o := 115) rfl, hS2.gI (o := 115) rfl, hS1.gI (o := 115) rfl]
    exact hC.2.2 _ _ rfl
  · have s : ∀ j, gI h4 83 j = gI g 83 j := fun j => by
      rw [hS4.gI (o := 83) rfl, hS3.gI (o := 83) rfl, hS2.gI (o := 83) rfl, hS1.gI (o := 83) rfl]
    rw [s, s, s, s]
    exact ⟨f0, f1, f2, f4⟩
end IMAGE
