section SAME
variable {h h' : mH}
/-- the model's world in h' is the class's in h -/
def Sa (h h' : mH) : Prop := (∀ k, k < 4 → gI h' 84 k = gI h 4 k ∧ gI h' 85 k = gI h 5 k ∧ gI h' 86 k = gI h 6 k) ∧ (∀ k, k < 12 → gI h' 87 k = gI h 7 k) ∧ gI h' 83 2 = gI h 3 5 ∧ ∀ i, i < (gI h 3 5).toInt.toNat → gI h' 88 (3 * i) = gI h 8 i ∧ ∀ a, a < 2 → gI h' 88 (3 * i + 1 + a) = gI h 9 (2 * i + a)
def Sb (h h' : mH) : Prop := (gI h' 83 30 = gI h 33 1 ∧ gI h' 83 33 = gI h 33 3 ∧ gI h' 83 36 = gI h 33 5) ∧ (∀ k, k < 96 → gI h' 97 k = gI h 35 k) ∧ (∀ k, k < 18 → gI h' 99 k = gI h 36 k) ∧ ∀ k, k < 10 → gI h' 101 k = gI h 37 k
theorem Sa_of (U : ∀ o k, (o = 83 ∧ k = 2) ∨ (84 ≤ o ∧ o ≤ 88) → gI h' o k = gI h o k) (p : P1 h) : Sa h h' := by
  obtain ⟨a, b, c, d, e, f, g⟩ := p
  refine ⟨fun k hk => ?_, fun k hk => ?_, by rw [U 83 2 (by omega)]; exact d, fun i hi => ?_⟩
  · rw [U 84 k (by omega), U 85 k (by omega), U 86 k (by omega)]; exact e k hk
  · rw [U 87 k (by omega)]; exact f k hk
  · exact ⟨by rw [U 88 _ (by omega)]; exact (g i hi).1, fun a ha => by rw [U 88 _ (by omega)]; exact (g i hi).2 a ha⟩
theorem Sb_of (U : ∀ o k, (o = 83 ∧ (k = 30 ∨ k = 33 ∨ k = 36)) ∨ o = 97 ∨ o = 99 ∨ o = 101 → gI h' o k = gI h o k) (p : P2 h) : Sb h h' := by
  obtain ⟨a, ⟨b1, b2, b3⟩, c, d, e⟩ := p
  refine ⟨⟨?_, ?_, ?_⟩, fun k hk => ?_, fun k hk => ?_, fun k hk => ?_⟩
  · rw [U 83 30 (by omega)]; exact b1
  · rw [U 83 33 (by omega)]; exact b2
  · rw [U 83 36 (by omega)]; exact b3
  · rw [U 97 k (by omega)]; exact c k hk
  · rw [U 99 k (by omega)]; exact d k hk
  · rw [U 101 k (by omega)]; exact e k hk
theorem Sa.mr (s : Sa h h') (f : FR h 3) : MR h' 87 0 := fun p hp => by
  have q := f p hp
  obtain ⟨e1, e2, e3⟩ := s.1 p hp
  unfold PnR at q ⊢
  rw [e1, e2, e3, s.2.1 _ (by omega), s.2.1 _ (by omega), s.2.1 _ (by omega)]
  exact q
theorem Sa.cm (s : Sa h h') (c : CR h 3) : CM h' := by
  obtain ⟨a, b⟩ := c
  refine ⟨by rw [s.2.2.1]; exact a, fun i hi => ?_⟩
  rw [s.2.2.1] at hi
  obtain ⟨x, y⟩ := s.2.2.2 i hi
  exact ⟨by rw [x]; exact (b i hi).1, fun a ha => by rw [y a ha]; exact (b i hi).2 a ha⟩
theorem Sa.at (s : Sa h h') {p t : Nat} (hp : p < 4) : atV h' 84 85 86 87 0 p t = atV h 4 5 6 7 0 p t := by
  obtain ⟨e1, e2, e3⟩ := s.1 p hp
  unfold atV
  rw [e1, e2, e3, s.2.1 _ (by omega), s.2.1 _ (by omega), s.2.1 _ (by omega)]
theorem Sa.sw (s : Sa h h') {ax t : Nat} (hx : ax < 2) : swM h' 87 0 ax t = swF h 3 ax t := by
  unfold swM swF
  rw [s.at (by omega), s.at (by omega)]
theorem Sa.sk (s : Sa h h') {ax t : Nat} (hx : ax < 2) : skM h' ax t = skF h 3 ax t := by
  unfold skM skF
  rw [s.2.2.1]
  refine shI_congr _ (fun i hi => ?_)
  obtain ⟨x, y⟩ := s.2.2.2 i hi
  exact ⟨by rw [x], by rw [y ax hx]⟩
theorem Sa.pn (s : Sa h h') {ax t : Nat} (hx : ax < 2) : pnM h' ax t = pnF h 3 ax t := by
  unfold pnM pnF
  rw [s.sw hx, s.sk hx]
theorem Sa.ce (s : Sa h h') : ceM h' = ceF h 3 := funext fun t => by
  unfold ceM ceF
  rw [s.pn (by omega), s.pn (by omega)]
theorem rd_s {a2 a4 f b2 b4 : Nat} : ∀ n, (∀ p, p < n → gI h' b2 p = gI h a2 p ∧ gI h' b4 (f + p) = gI h a4 (f + p) ∧ gI h' b4 (f + (8 + p)) = gI h a4 (f + (8 + p))) → rdV h' b2 b4 f n = rdV h a2 a4 f n
  | 0, _ => rfl
  | n + 1, e => by
    obtain ⟨e1, e2, e3⟩ := e n (Nat.lt_succ_self _)
    have ih := rd_s (a2 := a2) (a4 := a4) (b2 := b2) (b4 := b4) (f := f) n (fun p hp => e p (Nat.lt_succ_of_lt hp))
    unfold rdV perV
    rw [e1, e2, e3, ih]
theorem Sa.rd (s : Sa h h') : rdV h' 85 87 0 4 = rdV h 5 7 0 4 := rd_s 4 (fun p hp => ⟨(s.1 p hp).2.1, s.2.1 _ (by omega), s.2.1 _ (by omega)⟩)
theorem Sa.of (s : Sa h h') : offM h' = offF h := by
  unfold offM offF
  rw [s.rd, s.sw (by omega), s.sw (by omega), s.sw (by omega), s.sw (by omega)]
theorem Sa.ch (s : Sa h h') {a b w : Int32} : chV h' 85 87 a b w = chV h 5 7 a b w := by
  unfold chV
  rw [(s.1 0 (by omega)).2.1, (s.1 2 (by omega)).2.1, s.2.1 0 (by omega), s.2.1 2 (by omega)]
theorem Sa.pe (s : Sa h h') {p : Nat} {w : Int32} (hp : p < 4) : peV h' 84 85 86 87 p w = peV h 4 5 6 7 p w := by
  obtain ⟨e1, e2, e3⟩ := s.1 p hp
  unfold peV
  rw [e1, e2, e3, s.2.1 _ (by omega), s.2.1 _ (by omega), s.2.1 _ (by omega)]
theorem Sab.at (s : Sa h h') (q : Sb h h') {i p t : Nat} (hi : i < 8) (hp : p < 4) : atV h' 84 85 86 97 (12 * i) p t = atV h 4 5 6 35 (12 * i) p t := by
  obtain ⟨e1, e2, e3⟩ := s.1 p hp
  unfold atV
  rw [e1, e2, e3, q.2.1 _ (by omega), q.2.1 _ (by omega), q.2.1 _ (by omega)]
theorem Sab.ce (s : Sa h h') (q : Sb h h') {i : Nat} (hi : i < 8) : ceP h' (12 * i) = ceC h (12 * i) := funext fun t => by
  unfold ceP ceC swM swC
  rw [Sab.at s q hi (by omega), Sab.at s q hi (by omega), Sab.at s q hi (by omega), Sab.at s q hi (by omega)]
theorem Sab.mr (s : Sa h h') (q : Sb h h') {i : Nat} (hi : i < 8) (f : FR h 3) (w : StW h 35 (12 * i)) : MR h' 97 (12 * i) := fun p hp => by
  obtain ⟨a1, a2, a3, _⟩ := f p hp
  obtain ⟨b1, b2, b3⟩ := w p hp
  obtain ⟨e1, e2, e3⟩ := s.1 p hp
  unfold PnR
  rw [e1, e2, e3, q.2.1 _ (by omega), q.2.1 _ (by omega), q.2.1 _ (by omega)]
  exact ⟨a1, a2, a3, b1, b2, b3⟩
theorem PrR_of {i : Nat} (f : FR h 3) (w : StW h 35 (12 * i)) : PrR h 35 (12 * i) := fun p hp => by
  obtain ⟨a1, a2, a3, _⟩ := f p hp
  obtain ⟨b1, b2, b3⟩ := w p hp
  exact ⟨a1, a2, a3, b1, b2, b3⟩
theorem ALk_cg {kk kk' s1 s1' s2 s2' t1 t1' t2 t2' e1 e1' e2 e2' : Nat → Nat} (a : ∀ p, p < 4 → kk' p = kk p ∧ s1' p = s1 p ∧ s2' p = s2 p ∧ t1' p = t1 p ∧ t2' p = t2 p ∧ e1' p = e1 p ∧ e2' p = e2 p) (x : ALk kk s1 s2 t1 t2 e1 e2) : ALk kk' s1' s2' t1' t2' e1' e2' := by
  obtain ⟨w, hw, y, m, hm, t, z⟩ := x
  refine ⟨w, hw, fun p hp => ?_, m, hm, t, fun p hp hs => ?_⟩
  · have b4 := bcM_4 w hw p hp
    obtain ⟨y1, y2, y3⟩ := y p hp
    rw [(a p hp).2.1, (a _ b4).2.2.1, (a p hp).1, (a _ b4).1, (a p hp).2.2.2.2.2.1, (a _ b4).2.2.2.2.2.2]
    refine ⟨y1, y2, fun p' hp' q1 q2 => ?_⟩
    have b4' := bcM_4 w hw p' hp'
    rw [(a p' hp').2.1] at q2 ⊢
    rw [(a _ b4').2.2.1]
    exact y3 p' hp' q1 q2
  · have b4 := bcM_4 w hw p hp
    rw [(a p hp).2.1] at hs
    rw [(a p hp).2.2.2.2.2.1, (a p hp).2.2.2.1, (a _ b4).2.2.2.2.1]
    exact z p hp hs
theorem Sab.al (s : Sa h h') (q : Sb h h') {i k : Nat} (hi : i < 8) (hk : k < 8) : alV h' 84 85 97 i k = alV h 4 5 35 i k ∧ alT h' 84 85 97 i k = alT h 4 5 35 i k := by
  have r : rdV h' 85 97 (12 * k) 4 = rdV h 5 35 (12 * k) 4 := rd_s 4 (fun p hp => ⟨(s.1 p hp).2.1, q.2.1 _ (by omega), q.2.1 _ (by omega)⟩)
  have c : ∀ p, p < 4 → kkV h' 84 p = kkV h 4 p ∧ szV h' 97 (12 * i) p = szV h 35 (12 * i) p ∧ szV h' 97 (12 * k) p = szV h 35 (12 * k) p ∧ saV h' 97 (12 * i) p = saV h 35 (12 * i) p ∧ saV h' 97 (12 * k) p = saV h 35 (12 * k) p ∧ perV h' 85 97 (12 * i) p = perV h 5 35 (12 * i) p ∧ perV h' 85 97 (12 * k) p = perV h 5 35 (12 * k) p := fun p hp => by
    obtain ⟨e1, e2, e3⟩ := s.1 p hp
    unfold kkV szV saV perV
    rw [e1, e2, q.2.1 (12 * i + (8 + p)) (by omega), q.2.1 (12 * k + (8 + p)) (by omega), q.2.1 (12 * i + (4 + p)) (by omega), q.2.1 (12 * k + (4 + p)) (by omega), q.2.1 (12 * i + p) (by omega), q.2.1 (12 * k + p) (by omega)]
    exact ⟨rfl, rfl, rfl, rfl, rfl, rfl, rfl⟩
  have e : ALp h' 84 85 97 i k ↔ ALp h 4 5 35 i k := ⟨fun x => ALk_cg (fun p hp => ⟨(c p hp).1.symm, (c p hp).2.1.symm, (c p hp).2.2.1.symm, (c p hp).2.2.2.1.symm, (c p hp).2.2.2.2.1.symm, (c p hp).2.2.2.2.2.1.symm, (c p hp).2.2.2.2.2.2.symm⟩) x, fun x => ALk_cg c x⟩
  have e2 : ALp h' 84 85 97 i k = ALp h 4 5 35 i k := propext e
  unfold alV alT
  rw [r, e2]
  exact ⟨rfl, rfl⟩
theorem fsV_cg {f g : Nat → Bool} : ∀ n, (∀ i, i < n → f i = g i) → fsV f n = fsV g n
  | 0, _ => rfl
  | n + 1, e => by
    have ih := fsV_cg n (fun i hi => e i (Nat.lt_succ_of_lt hi))
    unfold fsV
    rw [ih, e n (Nat.lt_succ_self _)]
theorem lsN_cg {al al' : Nat → Nat → Bool} {p : Nat} (e : ∀ j, j < p → al' j p = al j p) : lsN al' p = lsN al p := by
  unfold lsN
  rw [fsV_cg p e]
theorem Sab.kd (s : Sa h h') (q : Sb h h') {n : Nat} {v : Int32} (hn : n ≤ 8) (hv : v = -1 ∨ v.toInt.toNat < n) : kdV (alT h' 84 85 97) n v = kdV (alT h 4 5 35) n v := by
  have e : ∀ p, p < n → lsN (alT h' 84 85 97) p = lsN (alT h 4 5 35) p := fun p hp => lsN_cg (fun j hj => (Sab.al s q (by omega) (by omega)).2)
  unfold kdV
  rcases hv with hv | hv
  · rw [if_pos hv, if_pos hv]
    congr 1
    exact cnt_cg n (fun x hx => by rw [e x hx])
  · rw [e _ hv]
    split
    · congr 1
      exact cnt_cg n (fun x hx => by rw [e x hx])
    · rfl
theorem Sb.dE (s : Sa h h') (q : Sb h h') {np : Nat} (hn : np ≤ 8) : dE h' 87 97 np = dE h 7 35 np := funext fun x => funext fun y => by
  unfold _root_.Jvm.Pilot.CPenSwingsLaw_law_r2440_7aaa7a.dE d4 rwI
  by_cases c : y < np
  · rw [if_pos c, if_pos c]
    rw [q.2.1 (12 * y + 0) (by omega), q.2.1 (12 * y + 1) (by omega), q.2.1 (12 * y + 2) (by omega), q.2.1 (12 * y + 3) (by omega), s.2.1 (0 + 0) (by omega), s.2.1 (0 + 1) (by omega), s.2.1 (0 + 2) (by omega), s.2.1 (0 + 3) (by omega)]
    by_cases c8 : x = 8
    · rw [if_pos c8, if_pos c8]
    · rw [if_neg c8, if_neg c8]
      by_cases c9 : x = 9
      · rw [if_pos c9, if_pos c9]
      · rw [if_neg c9, if_neg c9]
        by_cases cx : x < np
        · rw [if_pos cx, if_pos cx, q.2.1 (12 * x + 0) (by omega), q.2.1 (12 * x + 1) (by omega), q.2.1 (12 * x + 2) (by omega), q.2.1 (12 * x + 3) (by omega)]
        · rw [if_neg cx, if_neg cx]
  · rw [if_neg c, if_neg c]
theorem rowF_cg {d d' : Nat → Nat} {f a : Nat} : ∀ (b : Nat) (s : Option Nat), d' a = d a → (∀ k, k < b → d' k = d k) → rowF d' f a b s = rowF d f a b s
  | 0, _, _, _ => rfl
  | b + 1, s, ha, hk => by
    have ih := rowF_cg (f := f) b s ha (fun k hb => hk k (Nat.lt_succ_of_lt hb))
    unfold rowF
    rw [ih]
    unfold stp
    rw [ha, hk b (Nat.lt_succ_self _)]
theorem allF_cg {d d' : Nat → Nat} {f : Nat} : ∀ n, (∀ k, k < n → d' k = d k) → allF d' f n = allF d f n
  | 0, _ => rfl
  | n + 1, e => by
    have ih := allF_cg (f := f) n (fun k hk => e k (Nat.lt_succ_of_lt hk))
    unfold allF
    rw [ih, rowF_cg n _ (e n (Nat.lt_succ_self _)) (fun k hk => e k (Nat.lt_succ_of_lt hk))]
theorem bst_cg {d d' : Nat → Nat} {n : Nat} (e : ∀ k, k < n → d' k = d k) : ∀ F, bst d' n F = bst d n F
  | 0 => rfl
  | F + 1 => by
    have ih := bst_cg e F
    unfold bst
    rw [ih, allF_cg n e]
theorem Sb.fa (q : Sb h h') {n : Nat} {w : Int32} (hn : n ≤ 10) : faV h' 101 n w = faV h 37 n w := by
  unfold faV
  rw [bst_cg (d' := dyV h' 101) (d := dyV h 37) (fun k hk => by unfold dyV; rw [q.2.2.2 k (by omega)])]
theorem sho_cg {tk tk' : Nat → Nat} {wy wy' : Nat → Nat → Int} {c : Nat} : ∀ n, (∀ i, i < n → tk' i = tk i ∧ wy' i 0 = wy i 0 ∧ wy' i 1 = wy i 1) → sho tk' wy' c n = sho tk wy c n ∧ ∀ m, sho tk wy c n = some (some m) → m < n
  | 0, _ => ⟨rfl, fun m e => by cases e⟩
  | n + 1, e => by
    obtain ⟨ih, lt⟩ := sho_cg (c := c) n (fun i hi => e i (Nat.lt_succ_of_lt hi))
    obtain ⟨e1, e2, e3⟩ := e n (Nat.lt_succ_self _)
    unfold sho
    rw [ih, e1, e2, e3]
    cases hx : sho tk wy c n with
    | none => exact ⟨rfl, fun m z => by cases z⟩
    | some one =>
      simp only
      cases one with
      | none =>
        refine ⟨rfl, fun m z => ?_⟩
        split at z
        · split at z
          · cases z
          · cases z
        · cases z
          exact Nat.lt_succ_self _
      | some y =>
        have yl := lt y hx
        obtain ⟨_, f2, f3⟩ := e y (Nat.lt_succ_of_lt yl)
        simp only
        rw [f2, f3]
        refine ⟨rfl, fun m z => ?_⟩
        split at z
        · split at z
          · cases z; omega
          · cases z
        · split at z
          · cases z; omega
          · cases z
theorem shw_cg {tk tk' : Nat → Nat} {wy wy' : Nat → Nat → Int} {n : Nat} (e : ∀ i, i < n → tk' i = tk i ∧ wy' i 0 = wy i 0 ∧ wy' i 1 = wy i 1) (c : Nat) : shw tk' wy' n c = shw tk wy n c ∧ ∀ m, shw tk wy n c = some m → m < n := by
  obtain ⟨a, b⟩ := sho_cg (c := c) n e
  unfold shw
  rw [a]
  cases hx : sho tk wy c n with
  | none => exact ⟨rfl, fun m z => by cases z⟩
  | some y =>
    cases y with
    | none => exact ⟨rfl, fun m z => by cases z⟩
    | some m =>
      have ml := b m hx
      obtain ⟨_, f2, f3⟩ := e m ml
      simp only
      unfold okW
      rw [f2, f3]
      refine ⟨rfl, fun m' z => ?_⟩
      split at z
      · cases z; exact ml
      · cases z
theorem frs_m {p : Nat → Option Nat} {n : Nat} (hp : ∀ c m, p c = some m → m < n) : ∀ k x, frs p k = some x → x.2 < n
  | 0, x, e => by cases e
  | k + 1, x, e => by
    unfold frs at e
    split at e
    · rename_i y hy
      cases e
      exact frs_m hp k _ hy
    · split at e
      · cases e
      · rename_i m hm
        cases e
        exact hp _ _ hm
theorem caV_cg {p : Nat → Option Nat} {wy wy' : Nat → Nat → Int} {w : Int32} (e : ∀ c m, p c = some m → wy' m 0 = wy m 0 ∧ wy' m 1 = wy m 1) : caV p wy' w = caV p wy w := by
  unfold caV
  generalize (1000 : Nat) = K
  have ow : ∀ x, frs p K = some x → wy' x.2 0 = wy x.2 0 ∧ wy' x.2 1 = wy x.2 1 := by
    induction K with
    | zero => intro x z; cases z
    | succ k ih =>
      intro x z
      unfold frs at z
      split at z
      · rename_i y hy
        cases z
        exact ih _ hy
      · split at z
        · cases z
        · rename_i m hm
          cases z
          exact e _ _ hm
  cases hf : frs p K with
  | none => rfl
  | some y =>
    obtain ⟨a, b⟩ := ow y hf
    obtain ⟨y1, y2⟩ := y
    simp only at a b
    unfold oW
    simp only
    rw [a, b]
theorem Sab.ca (s : Sa h h') (q : Sb h h') {n : Nat} {w : Int32} (hn : n ≤ 6) : caV (shw (tkF h' 99) (wyM h') n) (wyM h') w = caV (shw (tkF h 36) (wyF h) n) (wyF h) w := by
  have tk : ∀ i, i < n → tkF h' 99 i = tkF h 36 i := fun i hi => by
    unfold tkF
    rw [q.2.2.1 _ (by omega)]
  have wy : ∀ i ax, i < n → ax < 2 → wyM h' i ax = wyF h i ax := fun i ax hi hx => by
    unfold wyM wyF
    rw [tk i hi, q.2.2.1 _ (by omega), s.sw hx]
  have e := fun c => shw_cg (tk := tkF h 36) (tk' := tkF h' 99) (wy := wyF h) (wy' := wyM h') (n := n) (fun i hi => ⟨tk i hi, wy i 0 hi (by omega), wy i 1 hi (by omega)⟩) c
  have e1 : shw (tkF h' 99) (wyM h') n = shw (tkF h 36) (wyF h) n := funext fun c => (e c).1
  rw [e1]
  exact caV_cg (fun c m z => ⟨wy m 0 ((e c).2 m z) (by omega), wy m 1 ((e c).2 m z) (by omega)⟩)
theorem ftV_cg {f g : Nat → Nat} {near : Nat} : ∀ n, (∀ i, i < n → f i = g i) → ftV f near n = ftV g near n
  | 0, _ => rfl
  | n + 1, e => by
    have ih := ftV_cg (near := near) n (fun i hi => e i (Nat.lt_succ_of_lt hi))
    unfold ftV
    rw [ih, e n (Nat.lt_succ_self _)]
theorem ttV_cg {f g : Nat → Nat} : ∀ n, (∀ i, i < n → f i = g i) → ttV f n = ttV g n
  | 0, _ => rfl
  | n + 1, e => by
    have ih := ttV_cg n (fun i hi => e i (Nat.lt_succ_of_lt hi))
    unfold ttV
    rw [ih, e n (Nat.lt_succ_self _)]
theorem Sab.ft (s : Sa h h') (q : Sb h h') {n : Nat} {a b w : Int32} (hn : n ≤ 6) : fitV (oMt h') n a b w = fitV (oFt h 3 36) n a b w := by
  have o : ∀ ax x y i, ax < 2 → i < n → oMt h' ax x y i = oFt h 3 36 ax x y i := fun ax x y i hx hi => by
    have tk : tkF h' 99 i = tkF h 36 i := by
      unfold tkF
      rw [q.2.2.1 _ (by omega)]
    have ap : ∀ p r t, p < 4 → aP h' 84 85 86 87 p r t = aP h 4 5 6 7 p r t := fun p r t hp => by
      obtain ⟨e1, e2, e3⟩ := s.1 p hp
      unfold aP
      rw [e1, e2, e3, s.2.1 _ (by omega), s.2.1 _ (by omega)]
    unfold oMt oFt oA
    rw [tk]
    show (aP h' 84 85 86 87 (2 * ax) x (tkF h 36 i) + aP h' 84 85 86 87 (2 * ax + 1) y (tkF h 36 i) + skM h' ax (tkF h 36 i) - ptF h' 99 i ax).natAbs = (aP h 4 5 6 7 (2 * ax) x (tkF h 36 i) + aP h 4 5 6 7 (2 * ax + 1) y (tkF h 36 i) + skF h 3 ax (tkF h 36 i) - ptF h 36 i ax).natAbs
    rw [ap _ _ _ (by omega), ap _ _ _ (by omega), s.sk hx, show ptF h' 99 i ax = ptF h 36 i ax from by unfold ptF; rw [q.2.2.1 _ (by omega)]]
  have of : ∀ r i, i < n → ofV (oMt h') r i = ofV (oFt h 3 36) r i := fun r i hi => by
    unfold ofV
    rw [o 0 _ _ i (by omega) hi, o 1 _ _ i (by omega) hi]
  unfold fitV
  rw [show (fun r => ftV (ofV (oMt h') r) b.toInt.toNat n) = (fun r => ftV (ofV (oFt h 3 36) r) b.toInt.toNat n) from funext fun r => ftV_cg n (of r), show (fun r => ttV (ofV (oMt h') r) n) = (fun r => ttV (ofV (oFt h 3 36) r) n) from funext fun r => ttV_cg n (of r)]
theorem Sa.wl (s : Sa h h') : wlM h' = wlC h ∧ stM h' = stC h := by
  have f1 : (fun p => if p < 4 then (gI h' 84 p).toInt else 0) = (fun p => if p < 4 then (gI h 4 p).toInt else 0) := funext fun p => by
    by_cases c : p < 4
    · rw [if_pos c, if_pos c, (s.1 p c).1]
    · rw [if_neg c, if_neg c]
  have f2 : (fun p => if p < 4 then (gI h' 85 p).toInt else 0) = (fun p => if p < 4 then (gI h 5 p).toInt else 0) := funext fun p => by
    by_cases c : p < 4
    · rw [if_pos c, if_pos c, (s.1 p c).2.1]
    · rw [if_neg c, if_neg c]
  have f3 : (fun p => if p < 4 then (gI h' 86 p).toInt else 0) = (fun p => if p < 4 then (gI h 6 p).toInt else 0) := funext fun p => by
    by_cases c : p < 4
    · rw [if_pos c, if_pos c, (s.1 p c).2.2]
    · rw [if_neg c, if_neg c]
  have f4 : (fun i => if i < (gI h 3 5).toInt.toNat then (gI h' 88 (3 * i)).toInt else 0) = (fun i => if i < (gI h 3 5).toInt.toNat then (gI h 8 i).toInt else 0) := funext fun i => by
    by_cases c : i < (gI h 3 5).toInt.toNat
    · rw [if_pos c, if_pos c, (s.2.2.2 i c).1]
    · rw [if_neg c, if_neg c]
  have f5 : (fun i a => if i < (gI h 3 5).toInt.toNat ∧ a < 2 then (gI h' 88 (3 * i + 1 + a)).toInt else 0) = (fun i a => if i < (gI h 3 5).toInt.toNat ∧ a < 2 then (gI h 9 (2 * i + a)).toInt else 0) := funext fun i => funext fun a => by
    by_cases c : i < (gI h 3 5).toInt.toNat ∧ a < 2
    · rw [if_pos c, if_pos c, (s.2.2.2 i c.1).2 a c.2]
    · rw [if_neg c, if_neg c]
  have f6 : (fun i => if i < 12 then (gI h' 87 i).toInt else 0) = (fun i => if i < 12 then (gI h 7 i).toInt else 0) := funext fun i => by
    by_cases c : i < 12
    · rw [if_pos c, if_pos c, s.2.1 i c]
    · rw [if_neg c, if_neg c]
  have w1 : wlM h' = ((fun p => if p < 4 then (gI h' 84 p).toInt else 0), (fun p => if p < 4 then (gI h' 85 p).toInt else 0), (fun p => if p < 4 then (gI h' 86 p).toInt else 0), (gI h' 83 2).toInt.toNat, (fun i => if i < (gI h' 83 2).toInt.toNat then (gI h' 88 (3 * i)).toInt else 0), (fun i a => if i < (gI h' 83 2).toInt.toNat ∧ a < 2 then (gI h' 88 (3 * i + 1 + a)).toInt else 0)) := rfl
  have w2 : wlC h = ((fun p => if p < 4 then (gI h 4 p).toInt else 0), (fun p => if p < 4 then (gI h 5 p).toInt else 0), (fun p => if p < 4 then (gI h 6 p).toInt else 0), (gI h 3 5).toInt.toNat, (fun i => if i < (gI h 3 5).toInt.toNat then (gI h 8 i).toInt else 0), (fun i a => if i < (gI h 3 5).toInt.toNat ∧ a < 2 then (gI h 9 (2 * i + a)).toInt else 0)) := rfl
  refine ⟨?_, ?_⟩
  · rw [w1, w2, s.2.2.1, f1, f2, f3, f4, f5]
  · exact f6
end SAME
