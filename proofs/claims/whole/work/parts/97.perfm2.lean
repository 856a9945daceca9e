section PERFM2
variable {G : GX} {h : mH} {Q : mO → mH → Prop} {W : WL}
/-- how often the repeated blocks around a step are still to come, as the model counts -/
def cnM (rp : Nat → Int) (g : mH) : List Nat → Prop
  | [] => True
  | o :: L => gI g 108 L.length = iI (rp o) ∧ cnM rp g L
theorem cnM_cg {rp rp' : Nat → Int} {g g' : mH} : ∀ L : List Nat, (∀ k, k < L.length → gI g' 108 k = gI g 108 k) → (∀ o, o ∈ L → rp' o = rp o) → cnM rp g L → cnM rp' g' L
  | [], _, _, _ => trivial
  | o :: L, hk, hR, h => ⟨by rw [hk _ (Nat.lt_succ_self _), hR o List.mem_cons_self]; exact h.1, cnM_cg L (fun k hk' => hk k (Nat.lt_succ_of_lt hk')) (fun x hx => hR x (List.mem_cons_of_mem _ hx)) h.2⟩
def MPs (W : WL) (s : PS) (g : mH) : Prop := MPr W s.2.1 s.2.2.1 s.2.2.2.1 s.2.2.2.2.1 s.2.2.2.2.2.1 g
/-- what a performance came to, in the model -/
def OuM (R : Nat → Nat → Int) (sz : Nat) (W : WL) (x : Option PS) (g : mH) : Prop := match x with
  | none => gI g 83 54 = 1
  | some s => PI R sz s ∧ MPs W s g
theorem clI_m {x hi : Int} (h1 : -1000 ≤ x) (h2 : x ≤ 1000) (h3 : 0 ≤ hi) (h4 : hi ≤ 1000) : fX11_between (iI x) (iI hi) = iI (clI x hi) := by
  unfold fX11_between clI
  have e0 : (0 : Int32) ≤ iI x ↔ 0 ≤ x := by rw [show (0 : Int32) = iI 0 from by decide, iI_le ⟨by decide, by decide⟩ ⟨by omega, by omega⟩]
  have e1 : iI x ≤ iI hi ↔ x ≤ hi := iI_le ⟨by omega, by omega⟩ ⟨by omega, by omega⟩
  by_cases c0 : 0 ≤ x
  · rw [if_pos (e0.mpr c0)]
    by_cases c1 : x ≤ hi
    · rw [if_pos (e1.mpr c1)]
      congr 1
      omega
    · rw [if_neg (fun w => c1 (e1.mp w))]
      congr 1
      omega
  · rw [if_neg (fun w => c0 (e0.mp w)), show (0 : Int32) = iI 0 from by decide]
    congr 1
    omega
theorem FK_c {sc : PF} {g g' : mH} (hC : ∀ k, gI g' 104 k = gI g 104 k) (hK : FK sc g) : FK sc g' := ⟨fun i j hi hj => by rw [hC]; exact hK.1 i j hi hj, by rw [hC]; exact hK.2⟩
theorem mX11_loop {sc : PF} {x : Option PS} (h0 : mH) (hi0 : Iv h0) (hW : WR W) (hF : WF sc) (hL : LN sc) (hK0 : FK sc h0)
    (k : ∀ g, Ce pmS h0 g → OuM sc.2.1 sc.1 W x g → Q (.inl none) g) : ∀ (d : Nat) (s : PS) (g : mH), phP sc.2.1 sc.1 s < d → Ce pmS h0 g → PI sc.2.1 sc.1 s → MPs W s g → cnM s.2.2.2.2.2.2 g (rpV sc.2.1 s.1) → x = ruP W sc.2.1 sc.1 d s → Vw G jX11_performs 58 [some (.ref 83), some (.int (iI ((rpV sc.2.1 s.1).length : Nat))), some (.int (iI (kpV sc.2.1 s.1 : Nat))), none, none] [] g Q := by
  have end1 : ∀ (g : mH) (v1 : Int32) (kq : Nat), x = none → Ce pmS h0 g → gI g 83 54 = 1 → kq < 600 → Vw G jX11_performs 58 [some (.ref 83), some (.int v1), some (.int (iI (kq : Nat))), none, none] [] g Q := fun g v1 kq hx C g5 hk => by
    have q := k g C (by rw [hx]; exact g5)
    exact bX11_performs_58 (C.iv hi0) ⟨in_n hk (by omega), fun _ => q, fun _ => ⟨fun _ => q, fun w => by rw [g5] at w; exact absurd w (by decide)⟩⟩
  have w100 := hF.1
  intro d
  induction d with
  | zero => intro s g hd; omega
  | succ d ih =>
    intro s g hd C hI hP hC hx
    have gi := C.iv hi0
    have hK : FK sc g := FK_c (fun k => C.2.2 104 k rfl) hK0
    obtain ⟨i, b, t, u, st, m, rp⟩ := s
    have hP' : MPr W b t u st m g := hP
    obtain ⟨p1, p2, p3, p4, p5, p6⟩ := id hI
    obtain ⟨x0, p51, p52, p53, p54, p109⟩ := id hP'
    simp only at p1 p2 p3 p4 p5 p6 hC ⊢
    have kb := kpV_b (R := sc.2.1) i
    by_cases w : sc.1 ≤ i
    · have ei : i = sc.1 := by omega
      refine bX11_performs_58 gi ⟨in_n (by omega) (by omega), fun _ => k g C ?_, fun c => absurd ?_ c⟩
      · rw [hx]
        unfold ruP
        rw [if_pos w]
        exact ⟨hI, hP⟩
      · rw [ix_n (by omega), ei]
        exact hK.2
    · have his : i < sc.1 := by omega
      have x1 : x = match stP W sc.2.1 (i, b, t, u, st, m, rp) with
          | none => none
          | some s' => ruP W sc.2.1 sc.1 d s' := by
        rw [hx]
        conv => lhs; unfold ruP
        rw [if_neg w]
        all_goals rfl
      have fin : ∀ (g' : mH) (s' : PS) (v1 v2 : Int32), stP W sc.2.1 (i, b, t, u, st, m, rp) = some s' → Ce pmS h0 g' → MPs W s' g' → cnM s'.2.2.2.2.2.2 g' (rpV sc.2.1 s'.1) → v1 = iI ((rpV sc.2.1 s'.1).length : Nat) → v2 = iI (kpV sc.2.1 s'.1 : Nat) → Vw G jX11_performs 58 [some (.ref 83), some (.int v1), some (.int v2), none, none] [] g' Q := fun g' s' v1 v2 es C' P' cn e1 e2 => by
        obtain ⟨I2, l2⟩ := stP_i hF hI his es
        rw [es] at x1
        rw [e1, e2]
        exact ih s' g' (by omega) C' I2 P' cn x1
      have fin5 : ∀ (g' : mH) (s' : PS) (v1 v2 : Int32), stP W sc.2.1 (i, b, t, u, st, m, rp) = some s' → Ce pmS h0 g' → MPs W s' g' → cnM s'.2.2.2.2.2.2 g' (rpV sc.2.1 s'.1) → v1 = iI ((rpV sc.2.1 s'.1).length : Nat) → v2 = iI (kpV sc.2.1 s'.1 : Nat) → Vw G jX11_performs 515 [some (.ref 83), some (.int v1), some (.int v2), none, none] [] g' Q := fun g' s' v1 v2 es C' P' cn e1 e2 => bX11_performs_515 (C'.iv hi0) (fin g' s' v1 v2 es C' P' cn e1 e2)
      have bad : ∀ (g' : mH) (v1 : Int32) (kq : Nat), stP W sc.2.1 (i, b, t, u, st, m, rp) = none → Ce pmS h0 g' → gI g' 83 54 = 1 → kq < 600 → Vw G jX11_performs 58 [some (.ref 83), some (.int v1), some (.int (iI (kq : Nat))), none, none] [] g' Q := fun g' v1 kq es C' g5 hk => by
        rw [es] at x1
        exact end1 g' v1 kq x1 C' g5 hk
      have bad5 : ∀ (g' : mH) (v1 : Int32) (kq : Nat), stP W sc.2.1 (i, b, t, u, st, m, rp) = none → Ce pmS h0 g' → gI g' 83 54 = 1 → kq < 600 → Vw G jX11_performs 515 [some (.ref 83), some (.int v1), some (.int (iI (kq : Nat))), none, none] [] g' Q := fun g' v1 kq es C' g5 hk => bX11_performs_515 (C'.iv hi0) (bad g' v1 kq es C' g5 hk)
      clear x1 ih hx end1
      obtain ⟨_, wO, ⟨wn, wj, wg, _, _⟩, _, _⟩ := id hF
      rw [wO] at wj
      obtain ⟨⟨n0, n8⟩, n1, n2, n5, n6⟩ := wn i his
      have cd : ∀ j, j < lnV (sc.2.1 0 i) → gI g 104 (kpV sc.2.1 i + j) = iI (cdV sc.2.1 i j) := fun j hj => hK.1 i j his hj
      have l5 := hL i p1
      have l6 := hL (i + 1) his
      have c0 : gI g 104 (kpV sc.2.1 i) = iI (cdV sc.2.1 i 0) := cd 0 (by have := lnV_b (v := sc.2.1 0 i); omega)
      generalize hRR : sc.2.1 = R at *
      have V : cdV R i 0 = if R 0 i ≤ 6 then R 0 i + 6 else R 0 i + 93 := rfl
      have vq : ∀ c : Int, 0 ≤ c → c ≤ 200 → (iI (cdV R i 0) = iI c ↔ cdV R i 0 = c) := fun c h1 h2 => iI_eq ⟨by rw [V]; split <;> omega, by rw [V]; split <;> omega⟩ ⟨by omega, by omega⟩
      have q0 : ¬ iI (cdV R i 0) = 0 := fun e => by
        have := (vq 0 (by omega) (by omega)).mp e
        rw [V] at this
        split at this <;> omega
      have qa : ∀ c : Int, 6 ≤ c → c ≤ 12 → (iI (cdV R i 0) = iI c ↔ R 0 i = c - 6) := fun c h1 h2 => by
        rw [vq c (by omega) (by omega), V]
        split <;> omega
      have q6 : iI (cdV R i 0) = 6 ↔ R 0 i = 0 := qa 6 (by omega) (by omega)
      have q7 : iI (cdV R i 0) = 7 ↔ R 0 i = 1 := qa 7 (by omega) (by omega)
      have q8 : iI (cdV R i 0) = 8 ↔ R 0 i = 2 := qa 8 (by omega) (by omega)
      have q9 : iI (cdV R i 0) = 9 ↔ R 0 i = 3 := qa 9 (by omega) (by omega)
      have q10 : iI (cdV R i 0) = 10 ↔ R 0 i = 4 := qa 10 (by omega) (by omega)
      have q11 : iI (cdV R i 0) = 11 ↔ R 0 i = 5 := qa 11 (by omega) (by omega)
      have q100 : iI (cdV R i 0) = 100 ↔ R 0 i = 7 := by
        rw [show (100 : Int32) = iI 100 from by decide, vq 100 (by omega) (by omega), V]
        split <;> omega
      have q101 : iI (cdV R i 0) = 101 ↔ R 0 i = 8 := by
        rw [show (101 : Int32) = iI 101 from by decide, vq 101 (by omega) (by omega), V]
        split <;> omega
      have b1000 : gI g 83 51 = 1000 ↔ b = 1000 := by rw [p51, n_1000, eq_n (by omega) (by omega)]
      have z0 : gI (pI g 83 54 0) 83 54 = 0 := by rw [gI_pI, if_pos ⟨rfl, rfl⟩]
      have z1 : gI (pI g 83 54 1) 83 54 = 1 := by rw [gI_pI, if_pos ⟨rfl, rfl⟩]
      have nx : R 0 i ≠ 5 → R 0 i ≠ 7 → rpV R (i + 1) = rpV R i := fun h5 h7 => by rw [rpV_s, if_neg h5, if_neg h7]
      have ks : kpV R (i + 1) = kpV R i + lnV (R 0 i) := rfl
      refine bX11_performs_58 gi ?_
      rw [ix_n (by omega), c0]
      refine ⟨in_n (by omega) (by omega), fun c => absurd c q0, fun _ => ⟨fun c => absurd p54 c, fun _ => ⟨in_n (by omega) (by omega), fun c100 => ⟨fun c101 => ⟨fun cb => ⟨fun _ => ?_, fun c => absurd z0 c⟩, fun cb => ⟨fun c => ?_, fun _ => ?_⟩⟩, fun c101 => ?_⟩, fun c100 => ?_⟩⟩⟩
      · -- an act
        rw [q100] at c100
        rw [q101] at c101
        rw [b1000] at cb
        have act : stP W R (i, b, t, u, st, m, rp) = acP W R i b t u st m rp := by
          unfold stP
          simp only
          rw [if_neg c100, if_neg c101, if_neg (by omega)]
        generalize hg1 : pI (pI g 83 54 0) 83 51 (gI (pI g 83 54 0) 83 51 + 1) = g1
        have e51 : gI (pI g 83 54 0) 83 51 = iI (b : Nat) := by rw [gI_pI, if_neg (by omega)]; exact p51
        have w1 : ∀ o k, (o = 83 → k ≠ 51 ∧ k ≠ 54) → gI g1 o k = gI g o k := fun o k hk => by
          rw [← hg1, gI_pI, if_neg (fun e => (hk e.1).1 e.2), gI_pI, if_neg (fun e => (hk e.1).2 e.2)]
        have P1 : MPr W (b + 1) t u st m g1 := by
          refine ⟨WY_c (fun o k ho => w1 o k (by omega)) x0, ?_, ?_, ?_, ?_, fun c hc => ?_⟩
          · rw [← hg1, gI_pI, if_pos ⟨rfl, rfl⟩, e51, n_1, ad_n]
          · rw [w1 83 52 (by omega)]; exact p52
          · rw [w1 83 53 (by omega)]; exact p53
          · rw [← hg1, gI_pI, if_neg (by omega)]; exact z0
          · rw [w1 109 c (by omega)]; exact p109 c hc
        have C1 : Ce pmS h0 g1 := by rw [← hg1]; exact (C.pI rfl _).pI rfl _
        have i1 := C1.iv hi0
        have cd1 : ∀ j, j < lnV (R 0 i) → gI g1 104 (kpV R i + j) = iI (cdV R i j) := fun j hj => by rw [w1 104 _ (by omega)]; exact cd j hj
        have cn1 : ∀ {g' : mH}, (∀ k, gI g' 108 k = gI g1 108 k) → cnM rp g' (rpV R i) := fun e => cnM_cg _ (fun k _ => by rw [e k, w1 108 k (by omega)]) (fun _ _ => rfl) hC
        clear hg1
        obtain ⟨x1, a51, a52, a53, a54, a109⟩ := id P1
        have nat : 0 ≤ R 1 i → iI (R 1 i) = iI (((R 1 i).toNat : Nat) : Int) := fun h => by congr 1; omega
        refine ⟨fun c6 => ⟨fun c7 => ⟨fun c8 => ?_, fun c8 => ⟨fun c9 => ⟨fun c10 => ⟨fun c11 => ?_, fun c11 => ?_⟩, fun c10 => ?_⟩, fun c9 => ?_⟩⟩, fun c7 => ?_⟩, fun c6 => ?_⟩
        · -- PENNY
          rw [q8] at c8
          have nb := n2 (.inl c8)
          have ln3 : lnV (R 0 i) = 3 := by rw [c8]; rfl
          have d1 := cd1 1 (by omega)
          have d2 := cd1 2 (by omega)
          rw [show cdV R i 1 = R 1 i from by unfold cdV; rw [if_neg (by omega), if_neg (by omega), if_pos (by omega), if_pos rfl], nat (by omega)] at d1
          rw [show cdV R i 2 = R 2 i from by unfold cdV; rw [if_neg (by omega), if_neg (by omega), if_pos (by omega), if_neg (by omega)]] at d2
          have ea := act
          unfold acP at ea
          rw [if_neg (by omega), if_neg (by omega), if_pos c8] at ea
          generalize hq : (R 1 i).toNat = q at *
          have q4 : q < 12 := by omega
          have sb := st_12 p4 q4
          refine bX11_performs_288 i1 ⟨fun c => absurd (q8.mpr c8) c, fun _ => ?_⟩
          have e1 : iI (kpV R i : Nat) + 1 = iI ((kpV R i + 1 : Nat) : Int) := by rw [n_1, ad_n]
          have e2 : iI (kpV R i : Nat) + 2 = iI ((kpV R i + 2 : Nat) : Int) := by rw [n_2, ad_n]
          have e3 : iI (kpV R i : Nat) + 3 = iI ((kpV R i + 3 : Nat) : Int) := by rw [n_3, ad_n]
          rw [e1, e2, e3, ix_n (by omega), ix_n (by omega), d1, d2, ix_n (by omega), x1.2.2.2 q q4, iI_add, show (9 : Int32) = iI 9 from by decide, clI_m (by omega) (by omega) (by omega) (by omega)]
          refine ⟨in_n (by omega) (by omega), in_n q4 (by omega), in_n (by omega) (by omega), fun c => absurd (q8.mpr c8) c, fun _ => ⟨in_n q4 (by omega), ?_⟩⟩
          refine fin5 _ _ _ _ ea (C1.pI rfl _) ⟨⟨fun p hp => ?_, ?_, fun j hj => ?_, fun j hj => ?_⟩, ?_, ?_, ?_, ?_, fun c hc => ?_⟩ ?_ ?_ ?_
          · rw [gI_pI, if_neg (by omega), gI_pI, if_neg (by omega), gI_pI, if_neg (by omega)]; exact x1.1 p hp
          · rw [gI_pI, if_neg (by omega)]; exact x1.2.1
          · exact ⟨by rw [gI_pI, if_neg (by omega)]; exact (x1.2.2.1 j hj).1, fun a ha => by rw [gI_pI, if_neg (by omega)]; exact (x1.2.2.1 j hj).2 a ha⟩
          · rw [gI_pI]
            simp only
            unfold upI
            by_cases y : j = q
            · rw [if_pos ⟨trivial, y⟩, if_pos y]
            · rw [if_neg (fun z => y z.2), if_neg y]; exact x1.2.2.2 j hj
          · rw [gI_pI, if_neg (by omega)]; exact a51
          · rw [gI_pI, if_neg (by omega)]; exact a52
          · rw [gI_pI, if_neg (by omega)]; exact a53
          · rw [gI_pI, if_neg (by omega)]; exact a54
          · rw [gI_pI, if_neg (by omega)]; exact a109 c hc
          · simp only
            rw [nx (by omega) (by omega)]
            exact cn1 (fun k => by rw [gI_pI, if_neg (by omega)])
          · simp only
            rw [nx (by omega) (by omega)]
          · simp only
            rw [ks, ln3]
        · -- WHEN
          rw [q6] at c6
          rw [q7] at c7
          rw [q8] at c8
          rw [q9] at c9
          rw [q10] at c10
          rw [q11] at c11
          have c : R 0 i = 6 := by omega
          have nb := n6 c
          have ln5 : lnV (R 0 i) = 5 := by rw [c]; rfl
          have d1 := cd1 1 (by omega)
          have d2 := cd1 2 (by omega)
          have d3 := cd1 3 (by omega)
          have d4 := cd1 4 (by omega)
          rw [show cdV R i 1 = R 2 i from by unfold cdV; rw [if_neg (by omega), if_neg (by omega), if_neg (by omega), if_neg (by omega), if_pos (by omega)]] at d1
          rw [show cdV R i 2 = (if R 1 i ≤ 2 then 15 + R 1 i else 18) from by unfold cdV; rw [if_neg (by omega), if_neg (by omega), if_neg (by omega), if_neg (by omega), if_neg (by omega), if_pos (by omega)]] at d2
          rw [show cdV R i 3 = (if R 1 i ≤ 2 then 0 else R 1 i - 3) from by unfold cdV; rw [if_neg (by omega), if_neg (by omega), if_neg (by omega), if_neg (by omega), if_neg (by omega), if_neg (by omega), if_pos (by omega)]] at d3
          rw [show cdV R i 4 = (kpV R (R 3 i).toNat : Nat) from by unfold cdV; rw [if_neg (by omega), if_neg (by omega), if_neg (by omega), if_neg (by omega), if_neg (by omega), if_neg (by omega), if_neg (by omega)]] at d4
          have ea := act
          unfold acP at ea
          rw [if_neg (by omega), if_neg (by omega), if_neg (by omega), if_neg (by omega), if_neg (by omega), if_neg (by omega)] at ea
          have e1 : iI (kpV R i : Nat) + 1 = iI ((kpV R i + 1 : Nat) : Int) := by rw [n_1, ad_n]
          have e2 : iI (kpV R i : Nat) + 2 = iI ((kpV R i + 2 : Nat) : Int) := by rw [n_2, ad_n]
          have e3 : iI (kpV R i : Nat) + 3 = iI ((kpV R i + 3 : Nat) : Int) := by rw [n_3, ad_n]
          have e4 : iI (kpV R i : Nat) + 4 = iI ((kpV R i + 4 : Nat) : Int) := by rw [n_4, ad_n]
          have e5 : iI (kpV R i : Nat) + 5 = iI ((kpV R i + 5 : Nat) : Int) := by rw [n_5, ad_n]
          rw [e2, e3, ix_n (by omega), ix_n (by omega), d2, d3]
          refine ⟨in_n (by omega) (by omega), in_n (by omega) (by omega), mX11_holds i1 hW p4 P1 p3 p5 (by omega) (by omega) (bX11_performs_480 i1 ?_)⟩
          obtain ⟨j, a1, a2, a3, a4⟩ := wj i his (by simp) (.inr (.inl c))
          have stay : hoW W st u t m (R 1 i) = decide (R 2 i = 0) → Vw G jX11_performs 515 [some (.ref 83), some (.int (iI ((rpV R i).length : Nat))), some (.int (iI (kpV R i : Nat) + 5)), none, none] [] g1 Q := fun e => by
            rw [if_pos e] at ea
            refine fin5 _ _ _ _ ea C1 P1 ?_ ?_ ?_
            · simp only
              rw [nx (by omega) (by omega)]
              exact cn1 (fun _ => rfl)
            · simp only
              rw [nx (by omega) (by omega)]
            · simp only
              rw [e5, ks, ln5]
          have go : ¬ hoW W st u t m (R 1 i) = decide (R 2 i = 0) → (vp_in (iI (kpV R i : Nat) + 4) 600 ∧ Vw G jX11_performs 515 [some (.ref 83), some (.int (iI ((rpV R i).length : Nat))), some (.int (gI g1 104 (Int32.toNatClampNeg (iI (kpV R i : Nat) + 4)))), none, none] [] g1 Q) := fun e => by
            rw [if_neg e] at ea
            rw [e4, ix_n (by omega), d4]
            refine ⟨in_n (by omega) (by omega), fin5 _ _ _ _ ea C1 P1 ?_ ?_ rfl⟩
            · simp only
              rw [a1, Int.toNat_natCast, a4]
              exact cn1 (fun _ => rfl)
            · simp only
              rw [a1, Int.toNat_natCast, a4]
          rw [e1, ix_n (by omega), d1]
          have r1 : iI (R 2 i) = 1 ↔ R 2 i = 1 := by rw [show (1 : Int32) = iI 1 from by decide, iI_eq ⟨by omega, by omega⟩ ⟨by decide, by decide⟩]
          have b1 : ∀ x : Bool, bL x = 1 ↔ x = true := fun x => by cases x <;> decide
          rw [r1]
          refine ⟨in_n (by omega) (by omega), fun w => ⟨fun y => ?_, fun y => ?_⟩, fun w => ⟨fun y => ?_, fun y => ?_⟩⟩
          · rw [bL_0] at y
            exact go (by rw [y, decide_eq_true (show R 2 i = 0 by omega)]; decide)
          · rw [bL_1] at y
            exact stay (by rw [y, decide_eq_true (show R 2 i = 0 by omega)])
          · rw [b1] at y
            exact go (by rw [y, decide_eq_false (show ¬ R 2 i = 0 by omega)]; decide)
          · rw [b1] at y
            exact stay (by rw [decide_eq_false (show ¬ R 2 i = 0 by omega)]; exact Bool.eq_false_iff.mpr y)
        · -- REPEAT
          rw [q11] at c11
          have nb := n5 c11
          have ln3 : lnV (R 0 i) = 3 := by rw [c11]; rfl
          have d1 := cd1 1 (by omega)
          have d2 := cd1 2 (by omega)
          rw [show cdV R i 1 = R 1 i from by unfold cdV; rw [if_neg (by omega), if_neg (by omega), if_neg (by omega), if_pos (by omega)]] at d1
          rw [show cdV R i 2 = (kpV R (R 3 i).toNat : Nat) from by unfold cdV; rw [if_neg (by omega), if_neg (by omega), if_neg (by omega), if_neg (by omega), if_neg (by omega), if_neg (by omega), if_neg (by omega)]] at d2
          have ea := act
          unfold acP at ea
          rw [if_neg (by omega), if_neg (by omega), if_neg (by omega), if_neg (by omega), if_neg (by omega), if_pos c11] at ea
          have e1 : iI (kpV R i : Nat) + 1 = iI ((kpV R i + 1 : Nat) : Int) := by rw [n_1, ad_n]
          have e2 : iI (kpV R i : Nat) + 2 = iI ((kpV R i + 2 : Nat) : Int) := by rw [n_2, ad_n]
          have e3 : iI (kpV R i : Nat) + 3 = iI ((kpV R i + 3 : Nat) : Int) := by rw [n_3, ad_n]
          have rn : rpV R (i + 1) = i :: rpV R i := by rw [rpV_s, if_pos c11]
          rw [rn] at l6
          have l6' : (rpV R i).length + 1 ≤ 5 := l6
          have r0 : iI (R 1 i) ≤ 0 ↔ R 1 i = 0 := by
            rw [show (0 : Int32) = iI 0 from by decide, iI_le ⟨by omega, by omega⟩ ⟨by decide, by decide⟩]
            omega
          rw [e1, ix_n (by omega), d1, r0, ix_n (by omega)]
          refine ⟨in_n (by omega) (by omega), fun w => ?_, fun w => ⟨in_n (by omega) (by omega), in_n (by omega) (by omega), ?_⟩⟩
          · rw [if_pos w] at ea
            refine bX11_performs_437 i1 ⟨fun _ => ?_, fun z => absurd rfl z⟩
            obtain ⟨j, a1, a2, a3, a4⟩ := wj i his (by simp) (.inl c11)
            rw [e2, ix_n (by omega), d2]
            refine ⟨in_n (by omega) (by omega), fin5 _ _ _ _ ea C1 P1 ?_ ?_ rfl⟩
            · simp only
              rw [a1, Int.toNat_natCast, a4]
              exact cnM_cg _ (fun _ _ => rfl) (fun o ho => by have := rpV_lt i o ho; unfold upI; rw [if_neg (by omega)]) (cn1 (fun _ => rfl))
            · simp only
              rw [a1, Int.toNat_natCast, a4]
          · rw [if_neg w] at ea
            have C2 : Ce pmS h0 (pI g1 108 (rpV R i).length (iI (R 1 i))) := C1.pI rfl _
            refine bX11_performs_437 (C2.iv hi0) ⟨fun z => absurd z (by decide), fun _ => ?_⟩
            have u0 : upI rp i (R 1 i) i = R 1 i := by unfold upI; rw [if_pos rfl]
            refine fin5 _ _ _ _ ea C2 ⟨WY_p (.inr (.inl rfl)) x1, ?_, ?_, ?_, ?_, fun c hc => ?_⟩ ?_ ?_ ?_
            · rw [gI_pI, if_neg (by omega)]; exact a51
            · rw [gI_pI, if_neg (by omega)]; exact a52
            · rw [gI_pI, if_neg (by omega)]; exact a53
            · rw [gI_pI, if_neg (by omega)]; exact a54
            · rw [gI_pI, if_neg (by omega)]; exact a109 c hc
            · simp only
              rw [rn]
              refine ⟨?_, cnM_cg _ (fun k hk => ?_) (fun o ho => by have := rpV_lt i o ho; unfold upI; rw [if_neg (by omega)]) (cn1 (fun _ => rfl))⟩
              · rw [gI_pI, if_pos ⟨rfl, rfl⟩, u0]
              · rw [gI_pI, if_neg (by omega)]
            · simp only
              rw [rn, n_1, ad_n]
              rfl
            · simp only
              rw [e3, ks, ln3]
        · -- TURN
          rw [q10] at c10
          have ea := act
          unfold acP at ea
          rw [if_neg (by omega), if_neg (by omega), if_neg (by omega), if_neg (by omega), if_pos c10] at ea
          have ln1 : lnV (R 0 i) = 1 := by rw [c10]; rfl
          have tu : ∀ v, v = bL (!u) → Vw G jX11_performs 515 [some (.ref 83), some (.int (iI ((rpV R i).length : Nat))), some (.int (iI (kpV R i : Nat) + 1)), none, none] [] (pI g1 83 53 v) Q := fun v hv => by
            refine fin5 _ _ _ _ ea (C1.pI rfl _) ⟨WY_p (.inl ⟨rfl, by omega⟩) x1, ?_, ?_, ?_, ?_, fun c hc => ?_⟩ ?_ ?_ ?_
            · rw [gI_pI, if_neg (by omega)]; exact a51
            · rw [gI_pI, if_neg (by omega)]; exact a52
            · rw [gI_pI, if_pos ⟨rfl, rfl⟩]; exact hv
            · rw [gI_pI, if_neg (by omega)]; exact a54
            · rw [gI_pI, if_neg (by omega)]; exact a109 c hc
            · simp only
              rw [nx (by omega) (by omega)]
              exact cn1 (fun k => by rw [gI_pI, if_neg (by omega)])
            · simp only
              rw [nx (by omega) (by omega)]
            · simp only
              rw [n_1, ad_n, ks, ln1]
          rw [a53]
          refine ⟨fun w => ?_, fun w => ?_⟩
          · rw [bL_1] at w
            exact tu 0 (by rw [w]; rfl)
          · rw [bL_0] at w
            exact tu 1 (by rw [w]; rfl)
        · -- SIZE
          rw [q9] at c9
          have nb := n2 (.inr c9)
          have ln3 : lnV (R 0 i) = 3 := by rw [c9]; rfl
          have d1 := cd1 1 (by omega)
          have d2 := cd1 2 (by omega)
          rw [show cdV R i 1 = R 1 i from by unfold cdV; rw [if_neg (by omega), if_neg (by omega), if_pos (by omega), if_pos rfl], nat (by omega)] at d1
          rw [show cdV R i 2 = R 2 i from by unfold cdV; rw [if_neg (by omega), if_neg (by omega), if_pos (by omega), if_neg (by omega)]] at d2
          have ea := act
          unfold acP at ea
          rw [if_neg (by omega), if_neg (by omega), if_neg (by omega), if_pos c9] at ea
          have no8 : ¬ iI (cdV R i 0) = 8 := fun e => by rw [q8] at e; omega
          generalize hq : (R 1 i).toNat = q at *
          have q4 : 8 + q < 12 := by omega
          have sb := st_12 p4 q4
          refine bX11_performs_288 i1 ⟨fun _ => ?_, fun c => absurd c no8⟩
          have e1 : iI (kpV R i : Nat) + 1 = iI ((kpV R i + 1 : Nat) : Int) := by rw [n_1, ad_n]
          have e2 : iI (kpV R i : Nat) + 2 = iI ((kpV R i + 2 : Nat) : Int) := by rw [n_2, ad_n]
          have e3 : iI (kpV R i : Nat) + 3 = iI ((kpV R i + 3 : Nat) : Int) := by rw [n_3, ad_n]
          have e8 : 8 + iI (q : Nat) = iI ((8 + q : Nat) : Int) := by rw [n_8, ad_n]
          rw [e1, e2, e3, ix_n (by omega), ix_n (by omega), d1, d2, e8, ix_n (by omega), x1.2.2.2 (8 + q) q4, iI_add, show (90 : Int32) = iI 90 from by decide, clI_m (by omega) (by omega) (by omega) (by omega)]
          refine ⟨in_n (by omega) (by omega), in_n q4 (by omega), in_n (by omega) (by omega), fun _ => ⟨in_n q4 (by omega), ?_⟩, fun c => absurd c no8⟩
          refine fin5 _ _ _ _ ea (C1.pI rfl _) ⟨⟨fun p hp => ?_, ?_, fun j hj => ?_, fun j hj => ?_⟩, ?_, ?_, ?_, ?_, fun c hc => ?_⟩ ?_ ?_ ?_
          · rw [gI_pI, if_neg (by omega), gI_pI, if_neg (by omega), gI_pI, if_neg (by omega)]; exact x1.1 p hp
          · rw [gI_pI, if_neg (by omega)]; exact x1.2.1
          · exact ⟨by rw [gI_pI, if_neg (by omega)]; exact (x1.2.2.1 j hj).1, fun a ha => by rw [gI_pI, if_neg (by omega)]; exact (x1.2.2.1 j hj).2 a ha⟩
          · rw [gI_pI]
            simp only
            unfold upI
            by_cases y : j = 8 + q
            · rw [if_pos ⟨trivial, y⟩, if_pos y]
            · rw [if_neg (fun z => y z.2), if_neg y]; exact x1.2.2.2 j hj
          · rw [gI_pI, if_neg (by omega)]; exact a51
          · rw [gI_pI, if_neg (by omega)]; exact a52
          · rw [gI_pI, if_neg (by omega)]; exact a53
          · rw [gI_pI, if_neg (by omega)]; exact a54
          · rw [gI_pI, if_neg (by omega)]; exact a109 c hc
          · simp only
            rw [nx (by omega) (by omega)]
            exact cn1 (fun k => by rw [gI_pI, if_neg (by omega)])
          · simp only
            rw [nx (by omega) (by omega)]
          · simp only
            rw [ks, ln3]
        · -- LIFT
          rw [q7] at c7
          have nb := n1 (by omega)
          have ln2 : lnV (R 0 i) = 2 := by rw [c7]; rfl
          have d1 := cd1 1 (by omega)
          rw [show cdV R i 1 = R 1 i from by unfold cdV; rw [if_neg (by omega), if_pos (by omega)], nat (by omega)] at d1
          have ea := act
          unfold acP at ea
          rw [if_neg (by omega), if_pos c7] at ea
          generalize hq : (R 1 i).toNat = q at *
          have e1 : iI (kpV R i : Nat) + 1 = iI ((kpV R i + 1 : Nat) : Int) := by rw [n_1, ad_n]
          have e2 : iI (kpV R i : Nat) + 2 = iI ((kpV R i + 2 : Nat) : Int) := by rw [n_2, ad_n]
          rw [e1, e2, ix_n (by omega), d1, a52, ad_n]
          have f52 : gI (pI g1 83 52 (iI ((t + q : Nat) : Int))) 83 52 = iI ((t + q : Nat) : Int) := by rw [gI_pI, if_pos ⟨rfl, rfl⟩]
          rw [f52, n_10000, lt_n (by omega) (by omega)]
          refine ⟨in_n (by omega) (by omega), fun w => ?_, fun w => ?_⟩
          · rw [if_neg (by omega)] at ea
            refine fin5 _ _ _ _ ea ((C1.pI rfl _).pI rfl _) ⟨WY_p (.inl ⟨rfl, by omega⟩) (WY_p (.inl ⟨rfl, by omega⟩) x1), ?_, ?_, ?_, ?_, fun c hc => ?_⟩ ?_ ?_ ?_
            · rw [gI_pI, if_neg (by omega), gI_pI, if_neg (by omega)]; exact a51
            · rw [gI_pI, if_neg (by omega)]; exact f52
            · rw [gI_pI, if_neg (by omega), gI_pI, if_neg (by omega)]; exact a53
            · rw [gI_pI, if_pos ⟨rfl, rfl⟩]
            · rw [gI_pI, if_neg (by omega), gI_pI, if_neg (by omega)]; exact a109 c hc
            · simp only
              rw [nx (by omega) (by omega)]
              exact cn1 (fun k => by rw [gI_pI, if_neg (by omega), gI_pI, if_neg (by omega)])
            · simp only
              rw [nx (by omega) (by omega)]
            · simp only
              rw [ks, ln2]
          · rw [if_pos (by omega)] at ea
            exact bad5 _ _ _ ea ((C1.pI rfl _).pI rfl _) (by rw [gI_pI, if_pos ⟨rfl, rfl⟩]) (by omega)
        · -- DRAW
          rw [q6] at c6
          have nb := n1 (by omega)
          have ln2 : lnV (R 0 i) = 2 := by rw [c6]; rfl
          have d1 := cd1 1 (by omega)
          rw [show cdV R i 1 = R 1 i from by unfold cdV; rw [if_neg (by omega), if_pos (by omega)], nat (by omega)] at d1
          have ea := act
          unfold acP at ea
          rw [if_pos c6] at ea
          generalize hq : (R 1 i).toNat = q at *
          have e1 : iI (kpV R i : Nat) + 1 = iI ((kpV R i + 1 : Nat) : Int) := by rw [n_1, ad_n]
          have e2 : iI (kpV R i : Nat) + 2 = iI ((kpV R i + 2 : Nat) : Int) := by rw [n_2, ad_n]
          rw [e1, ix_n (by omega), d1]
          refine ⟨in_n (by omega) (by omega), mX11_draws i1 hW p4 P1 p3 (by omega) p5 (fun g2 ht C2 C8 P2 => ?_) (fun g2 ht C2 s1 => ?_)⟩
          · rw [if_neg (by omega)] at ea
            have D2 := C1.tr C2
            refine bX11_performs_222 (D2.iv hi0) (fin5 _ _ _ _ ea D2 P2 ?_ ?_ ?_)
            · simp only
              rw [nx (by omega) (by omega)]
              exact cn1 C8
            · simp only
              rw [nx (by omega) (by omega)]
            · simp only
              rw [e2, ks, ln2]
          · rw [if_pos ht] at ea
            have D2 := C1.tr C2
            refine bX11_performs_222 (D2.iv hi0) ?_
            rw [e2]
            exact bad5 _ _ _ ea D2 s1 (by omega)
      · rw [z1] at c
        exact absurd c (by decide)
      · rw [q100] at c100
        rw [q101] at c101
        rw [b1000] at cb
        refine bad _ _ _ ?_ (C.pI rfl _) z1 (by omega)
        unfold stP
        simp only
        rw [if_neg c100, if_neg c101, if_pos (by omega)]
      · -- ELSE
        rw [q101] at c101
        have ln2 : lnV (R 0 i) = 2 := by rw [c101]; rfl
        have d1 := cd 1 (by omega)
        rw [show cdV R i 1 = (kpV R (R 3 i).toNat : Nat) from by unfold cdV; rw [if_neg (by omega), if_neg (by omega), if_neg (by omega), if_neg (by omega), if_neg (by omega), if_neg (by omega), if_neg (by omega)]] at d1
        have ea : stP W R (i, b, t, u, st, m, rp) = some ((R 3 i).toNat, b, t, u, st, m, rp) := by
          unfold stP
          simp only
          rw [if_neg (by omega), if_pos c101]
        obtain ⟨j, a1, a2, a3, a4⟩ := wj i his (by simp) (.inr (.inr c101))
        rw [n_1, ad_n, ix_n (by omega), d1]
        refine ⟨in_n (by omega) (by omega), fin _ _ _ _ ea C hP' ?_ ?_ rfl⟩
        · simp only
          rw [a1, Int.toNat_natCast, a4]
          exact hC
        · simp only
          rw [a1, Int.toNat_natCast, a4]
      · -- AGAIN
        rw [q100] at c100
        have ln2 : lnV (R 0 i) = 2 := by rw [c100]; rfl
        have d1 := cd 1 (by omega)
        rw [show cdV R i 1 = (kpV R (R 3 i).toNat : Nat) from by unfold cdV; rw [if_neg (by omega), if_neg (by omega), if_neg (by omega), if_neg (by omega), if_neg (by omega), if_neg (by omega), if_neg (by omega)]] at d1
        obtain ⟨o, g1, g2, g3, g4, g5⟩ := wg i his c100
        have ea : stP W R (i, b, t, u, st, m, rp) = some (agP R i b t u st m rp) := by
          unfold stP
          simp only
          rw [if_pos c100]
        unfold agP at ea
        rw [g1, Int.toNat_natCast, g4, Int.toNat_natCast] at ea
        rw [g4, Int.toNat_natCast] at d1
        have ro := p6 o (by rw [g5]; exact List.mem_cons_self)
        rw [g5] at hC l5
        obtain ⟨k1, k2⟩ := hC
        have l5' : (rpV R o).length + 1 ≤ 5 := l5
        have ev : iI ((rpV R i).length : Nat) - 1 = iI ((rpV R o).length : Nat) := by
          rw [g5, n_1, su_n (by show 1 ≤ (rpV R o).length + 1; omega)]
          rfl
        have ez : iI ((rpV R i).length : Nat) - 0 = iI (((rpV R o).length + 1 : Nat) : Int) := by
          rw [g5, n_0, su_n (Nat.zero_le _)]
          rfl
        have e1 : iI (kpV R i : Nat) + 1 = iI ((kpV R i + 1 : Nat) : Int) := by rw [n_1, ad_n]
        have e2 : iI (kpV R i : Nat) + 2 = iI ((kpV R i + 2 : Nat) : Int) := by rw [n_2, ad_n]
        have er : iI (rp o) - 1 = iI (rp o - 1) := by rw [show (1 : Int32) = iI 1 from by decide, iI_sub]
        rw [ev, ez, e1, e2, ix_n (by omega), ix_n (by omega), k1, er]
        generalize hg2 : pI g 108 (rpV R o).length (iI (rp o - 1)) = g2'
        have v108 : gI g2' 108 (rpV R o).length = iI (rp o - 1) := by rw [← hg2, gI_pI, if_pos ⟨rfl, rfl⟩]
        have w2 : ∀ a k, a ≠ 108 → gI g2' a k = gI g a k := fun a k h1 => by rw [← hg2, gI_pI, if_neg (fun e => h1 e.1)]
        have w8 : ∀ k, k < (rpV R o).length → gI g2' 108 k = gI g 108 k := fun k hk => by rw [← hg2, gI_pI, if_neg (by omega)]
        have C2 : Ce pmS h0 g2' := by rw [← hg2]; exact C.pI rfl _
        clear hg2
        have P2 : MPr W b t u st m g2' := ⟨WY_c (fun o k ho => w2 o k (by omega)) x0, by rw [w2 83 51 (by omega)]; exact p51, by rw [w2 83 52 (by omega)]; exact p52, by rw [w2 83 53 (by omega)]; exact p53, by rw [w2 83 54 (by omega)]; exact p54, fun c hc => by rw [w2 109 c (by omega)]; exact p109 c hc⟩
        have cno : cnM (upI rp o (rp o - 1)) g2' (rpV R o) := cnM_cg _ w8 (fun y hy => by have := rpV_lt o y hy; unfold upI; rw [if_neg (by omega)]) k2
        have r0 : iI (rp o - 1) ≤ 0 ↔ ¬ 0 < rp o - 1 := by
          rw [show (0 : Int32) = iI 0 from by decide, iI_le ⟨by omega, by omega⟩ ⟨by decide, by decide⟩]
          omega
        rw [v108, r0, w2 104 _ (by omega), d1]
        refine ⟨in_n (by omega) (by omega), in_n (by omega) (by omega), in_n (by omega) (by omega), fun y => ⟨in_n (by omega) (by omega), fun _ => ?_, fun z => absurd y z⟩, fun y => ⟨in_n (by omega) (by omega), in_n (by omega) (by omega), fun z => absurd z y, fun _ => ?_⟩⟩
        · rw [if_neg y] at ea
          have rn : rpV R (i + 1) = rpV R o := by rw [rpV_s, if_neg (by omega), if_pos c100, g5]; rfl
          refine fin _ _ _ _ ea C2 P2 ?_ ?_ ?_
          · simp only
            rw [rn]
            exact cno
          · simp only
            rw [rn]
          · simp only
            rw [ks, ln2]
        · rw [if_pos (Classical.not_not.mp y)] at ea
          have rn : rpV R (o + 1) = o :: rpV R o := by rw [rpV_s, if_pos g3]
          refine fin _ _ _ _ ea C2 P2 ?_ ?_ rfl
          · simp only
            rw [rn]
            refine ⟨?_, cno⟩
            rw [v108]
            unfold upI
            rw [if_pos rfl]
          · simp only
            rw [rn]
            rfl
end PERFM2
