section CRT
theorem dve {a b c : Int} (h : a ∣ b) (e : b = c) : a ∣ c := e ▸ h
theorem bez (a b : Nat) : ∃ x y : Int, (a : Int) * x + (b : Int) * y = (Nat.gcd a b : Nat) := by
  induction a, b using Nat.gcd.induction with
  | H0 n => exact ⟨0, 1, by simp⟩
  | H1 m n hm ih =>
    obtain ⟨x, y, e⟩ := ih
    refine ⟨y - ((n / m : Nat) : Int) * x, x, ?_⟩
    rw [Nat.gcd_rec m n, ← e]
    have hn : (n : Int) = (m : Int) * ((n / m : Nat) : Int) + ((n % m : Nat) : Int) := by
      have := Nat.div_add_mod n m
      rw [← Int.natCast_mul, ← Int.natCast_add, this]
    generalize ((n / m : Nat) : Int) = q at *
    generalize ((n % m : Nat) : Int) = r at *
    rw [hn, Int.mul_sub, Int.add_mul, ← Int.mul_assoc]
    omega
theorem crt2 {a b : Int} {m n : Nat} (h : ((Nat.gcd m n : Nat) : Int) ∣ a - b) : ∃ x : Int, (m : Int) ∣ x - a ∧ (n : Int) ∣ x - b := by
  obtain ⟨u, v, e⟩ := bez m n
  obtain ⟨c, hc⟩ := h
  refine ⟨a - (m : Int) * u * c, ⟨-(u * c), ?_⟩, ⟨v * c, ?_⟩⟩
  · rw [Int.mul_neg, Int.mul_assoc]; omega
  · rw [← e, Int.add_mul] at hc
    rw [← Int.mul_assoc]
    omega
theorem gcd_lcm_d (a b c : Nat) : Nat.gcd (Nat.lcm a b) c ∣ Nat.lcm (Nat.gcd a c) (Nat.gcd b c) := by
  obtain ⟨a', b', hc1, ha, hb⟩ := Nat.exists_coprime a b
  generalize Nat.gcd a b = g at ha hb
  subst ha hb
  obtain ⟨g', c', hc2, hg, hc⟩ := Nat.exists_coprime g c
  generalize Nat.gcd g c = u at hg hc
  subst hg hc
  have hl : Nat.lcm a' b' = a' * b' := Nat.lcm_eq_mul_iff.mpr (.inr (.inr hc1))
  have hX : Nat.Coprime (Nat.gcd a' c') (Nat.gcd b' c') := (Nat.Coprime.coprime_dvd_left (Nat.gcd_dvd_left _ _) (Nat.Coprime.coprime_dvd_right (Nat.gcd_dvd_left _ _) hc1))
  have hl2 : Nat.lcm (Nat.gcd a' c') (Nat.gcd b' c') = Nat.gcd a' c' * Nat.gcd b' c' := Nat.lcm_eq_mul_iff.mpr (.inr (.inr hX))
  rw [Nat.lcm_mul_right, hl, ← Nat.mul_assoc (a' * b'), Nat.gcd_mul_right, hc2.gcd_mul_right_cancel, hc1.mul_gcd, ← Nat.mul_assoc a', ← Nat.mul_assoc b', Nat.gcd_mul_right, Nat.gcd_mul_right, hc2.gcd_mul_right_cancel, hc2.gcd_mul_right_cancel, Nat.lcm_mul_right, hl2]
  exact Nat.dvd_refl _
/-- the least that all of the first n divide -/
def lcN (m : Nat → Nat) : Nat → Nat
  | 0 => 1
  | n + 1 => Nat.lcm (lcN m n) (m n)
theorem lcN_d (m : Nat → Nat) : ∀ n p, p < n → m p ∣ lcN m n
  | n + 1, p, hp => by
    unfold lcN
    by_cases e : p = n
    · subst e; exact Nat.dvd_lcm_right _ _
    · exact Nat.dvd_trans (lcN_d m n p (by omega)) (Nat.dvd_lcm_left _ _)
theorem lcN_g (m : Nat → Nat) (c z : Nat) : ∀ n, (∀ p, p < n → Nat.gcd (m p) c ∣ z) → Nat.gcd (lcN m n) c ∣ z
  | 0, _ => by
    unfold lcN
    rw [Nat.gcd_one_left]
    exact Nat.one_dvd z
  | n + 1, hz => by
    unfold lcN
    exact Nat.dvd_trans (gcd_lcm_d _ _ _) (Nat.lcm_dvd (lcN_g m c z n (fun p hp => hz p (by omega))) (hz n (by omega)))
theorem crtN (m : Nat → Nat) (a : Nat → Int) : ∀ n, (∀ p q, q < p → p < n → ((Nat.gcd (m p) (m q) : Nat) : Int) ∣ a p - a q) → ∃ x : Int, ∀ p, p < n → (m p : Int) ∣ x - a p
  | 0, _ => ⟨0, fun p hp => absurd hp (by omega)⟩
  | n + 1, hh => by
    obtain ⟨x, hx⟩ := crtN m a n (fun p q h1 h2 => hh p q h1 (by omega))
    have hg : ((Nat.gcd (lcN m n) (m n) : Nat) : Int) ∣ x - a n := by
      rw [Int.ofNat_dvd_left]
      refine lcN_g m (m n) _ n (fun p hp => ?_)
      rw [← Int.ofNat_dvd_left]
      have h1 : ((Nat.gcd (m p) (m n) : Nat) : Int) ∣ x - a p := Int.dvd_trans (Int.natCast_dvd_natCast.mpr (Nat.gcd_dvd_left _ _)) (hx p hp)
      have h2 := hh n p hp (by omega)
      rw [Nat.gcd_comm] at h2
      have := Int.dvd_sub h1 h2
      rw [show x - a n = x - a p - (a n - a p) from by omega]
      exact this
    obtain ⟨y, y1, y2⟩ := crt2 hg
    refine ⟨y, fun p hp => ?_⟩
    by_cases e : p = n
    · subst e; exact y2
    · have h1 := hx p (by omega)
      have h2 : (m p : Int) ∣ y - x := Int.dvd_trans (Int.natCast_dvd_natCast.mpr (lcN_d m n p (by omega))) y1
      have := Int.dvd_add h2 h1
      rw [show y - a p = y - x + (x - a p) from by omega]
      exact this
theorem md {x y T : Nat} : x % T = y % T ↔ (T : Int) ∣ (x : Int) - y := by
  constructor
  · intro e
    refine ⟨((x / T : Nat) : Int) - ((y / T : Nat) : Int), ?_⟩
    have h1 := Nat.div_add_mod x T
    have h2 := Nat.div_add_mod y T
    rw [Int.mul_sub, ← Int.natCast_mul, ← Int.natCast_mul]
    omega
  · intro e
    have := Int.emod_eq_emod_iff_emod_sub_eq_zero.mpr (Int.emod_eq_zero_of_dvd e)
    omega
/-- which pendulum p becomes by a way -/
def bcM (w p : Nat) : Nat := 2 * ((p / 2 + w) % 2) + (p % 2 + (if (p / 2 + w) % 2 = 0 then w / 2 else w / 4)) % 2
def mirB (mi ax : Nat) : Bool := (if ax = 0 then mi else mi / 2) % 2 == 1
theorem bcM_4 : ∀ w, w < 8 → ∀ p, p < 4 → bcM w p < 4 := by decide
theorem bcM_c : ∀ w1, w1 < 8 → ∀ w2, w2 < 8 → ∃ w3, w3 < 8 ∧ ∀ p, p < 4 → bcM w3 p = bcM w2 (bcM w1 p) := by decide
theorem mir_c : ∀ w, w < 8 → ∀ m1, m1 < 4 → ∀ m2, m2 < 4 → ∃ m3, m3 < 4 ∧ ∀ q, q < 4 → mirB m3 (bcM w q / 2) = (mirB m2 (bcM w q / 2) != mirB m1 (q / 2)) := by decide
/-- the pendulums of one agree with those of two by a way -/
def AWy (kk s1 s2 pe1 pe2 : Nat → Nat) (bc : Nat → Nat) : Prop := ∀ p, p < 4 → ((0 < s1 p ↔ 0 < s2 (bc p)) ∧ (0 < s1 p → kk p = kk (bc p) ∧ pe1 p = pe2 (bc p)) ∧ ∀ p', p' < 4 → 0 < s1 p → 0 < s1 p' → s2 (bc p) * s1 p' = s2 (bc p') * s1 p)
/-- a time t, mirrored by mi, makes the one's starts the two's -/
def TMk (s1 st1 st2 pe1 : Nat → Nat) (bc : Nat → Nat) (mi t : Nat) : Prop := ∀ p, p < 4 → 0 < s1 p → (mirB mi (bc p / 2) = true → pe1 p % 2 = 0) ∧ (st1 p + t + (if mirB mi (bc p / 2) then pe1 p / 2 else 0)) % pe1 p = st2 (bc p) % pe1 p
def ALk (kk s1 s2 st1 st2 pe1 pe2 : Nat → Nat) : Prop := ∃ w, w < 8 ∧ AWy kk s1 s2 pe1 pe2 (bcM w) ∧ ∃ mi, mi < 4 ∧ ∃ t, TMk s1 st1 st2 pe1 (bcM w) mi t
theorem ALk.tr {kk s1 s2 s3 t1 t2 t3 e1 e2 e3 : Nat → Nat} (h1 : ALk kk s1 s2 t1 t2 e1 e2) (h2 : ALk kk s2 s3 t2 t3 e2 e3) : ALk kk s1 s3 t1 t3 e1 e3 := by
  obtain ⟨w1, w1b, a1, m1, m1b, x1, y1⟩ := h1
  obtain ⟨w2, w2b, a2, m2, m2b, x2, y2⟩ := h2
  obtain ⟨w3, w3b, hw⟩ := bcM_c w1 w1b w2 w2b
  obtain ⟨m3, m3b, hm⟩ := mir_c w2 w2b m1 m1b m2 m2b
  refine ⟨w3, w3b, ?_, m3, m3b, x1 + x2, ?_⟩
  · intro p hp
    rw [hw p hp]
    have q4 := bcM_4 w1 w1b p hp
    obtain ⟨b1, b2, b3⟩ := a1 p hp
    obtain ⟨c1, c2, c3⟩ := a2 _ q4
    refine ⟨b1.trans c1, fun hl => ?_, fun p' hp' hl hl' => ?_⟩
    · have h2 := b1.mp hl
      exact ⟨(b2 hl).1.trans (c2 h2).1, (b2 hl).2.trans (c2 h2).2⟩
    · rw [hw p' hp']
      have q4' := bcM_4 w1 w1b p' hp'
      have l2 := b1.mp hl
      have l2' := (a1 p' hp').1.mp hl'
      have f1 := b3 p' hp' hl hl'
      have f2 := c3 _ q4' l2 l2'
      refine Nat.eq_of_mul_eq_mul_right l2 ?_
      calc s3 (bcM w2 (bcM w1 p)) * s1 p' * s2 (bcM w1 p) = s3 (bcM w2 (bcM w1 p)) * (s2 (bcM w1 p) * s1 p') := by rw [Nat.mul_assoc, Nat.mul_comm (s1 p')]
        _ = s3 (bcM w2 (bcM w1 p)) * (s2 (bcM w1 p') * s1 p) := by rw [f1]
        _ = s3 (bcM w2 (bcM w1 p)) * s2 (bcM w1 p') * s1 p := by rw [Nat.mul_assoc]
        _ = s3 (bcM w2 (bcM w1 p')) * s2 (bcM w1 p) * s1 p := by rw [f2]
        _ = s3 (bcM w2 (bcM w1 p')) * s1 p * s2 (bcM w1 p) := by rw [Nat.mul_assoc, Nat.mul_comm (s2 (bcM w1 p)), Nat.mul_assoc]
  · intro p hp hl
    rw [hw p hp]
    have q4 := bcM_4 w1 w1b p hp
    have l2 := (a1 p hp).1.mp hl
    obtain ⟨u1, u2⟩ := y1 p hp hl
    obtain ⟨v1, v2⟩ := y2 _ q4 l2
    have he := ((a1 p hp).2.1 hl).2
    rw [← he] at v1 v2
    rw [hm _ q4]
    generalize hB : mirB m2 (bcM w2 (bcM w1 p) / 2) = B at *
    generalize hA : mirB m1 (bcM w1 p / 2) = A at *
    generalize bcM w2 (bcM w1 p) = r at *
    generalize bcM w1 p = q at *
    refine ⟨fun z => ?_, ?_⟩
    · cases A <;> cases B
      · exact absurd z (by decide)
      · exact v1 rfl
      · exact u1 rfl
      · exact absurd z (by decide)
    · rw [md] at u2 v2 ⊢
      have hs := Int.dvd_add u2 v2
      cases A <;> cases B
      · refine dve hs ?_
        simp
        omega
      · refine dve hs ?_
        simp
        omega
      · refine dve hs ?_
        simp
        omega
      · have ev := u1 rfl
        have := Int.dvd_sub hs (Int.dvd_refl (e1 p : Int))
        refine dve this ?_
        simp
        omega
/-- two starts' conditions, each two of them: by the Chinese remainders there is a time -/
theorem TMk_crt {s1 st1 st2 pe1 bc : Nat → Nat} {mi R : Nat} (hR : 0 < R) (hpe : ∀ p, p < 4 → 0 < s1 p → pe1 p ∣ R) (hev : ∀ p, p < 4 → 0 < s1 p → mirB mi (bc p / 2) = true → pe1 p % 2 = 0)
    (hc : ∀ p q, q < p → p < 4 → 0 < s1 p → 0 < s1 q → ((Nat.gcd (pe1 p) (pe1 q) : Nat) : Int) ∣ ((st2 (bc p) : Int) - st1 p - (if mirB mi (bc p / 2) then (pe1 p / 2 : Nat) else (0 : Nat))) - ((st2 (bc q) : Int) - st1 q - (if mirB mi (bc q / 2) then (pe1 q / 2 : Nat) else (0 : Nat)))) : ∃ t, t < R ∧ TMk s1 st1 st2 pe1 bc mi t := by
  obtain ⟨x, hx⟩ := crtN (fun p => if 0 < s1 p then pe1 p else 1) (fun p => (st2 (bc p) : Int) - st1 p - (if mirB mi (bc p / 2) then (pe1 p / 2 : Nat) else (0 : Nat))) 4 (fun p q hq hp => by
    by_cases l1 : 0 < s1 p
    · by_cases l2 : 0 < s1 q
      · simp only [if_pos l1, if_pos l2]
        exact hc p q hq hp l1 l2
      · simp only [if_neg l2, Nat.gcd_one_right]
        exact Int.one_dvd _
    · simp only [if_neg l1, Nat.gcd_one_left]
      exact Int.one_dvd _)
  refine ⟨(x % (R : Int)).toNat, ?_, fun p hp hl => ⟨hev p hp hl, ?_⟩⟩
  · have h1 := Int.emod_nonneg x (b := (R : Int)) (by omega)
    have h2 := Int.emod_lt_of_pos x (b := (R : Int)) (by omega)
    omega
  · have h1 := Int.emod_nonneg x (b := (R : Int)) (by omega)
    rw [md]
    have hxp := hx p hp
    simp only [if_pos hl] at hxp
    have hd : (pe1 p : Int) ∣ x - x % (R : Int) := Int.dvd_trans (Int.natCast_dvd_natCast.mpr (hpe p hp hl)) ⟨x / R, by have := Int.mul_ediv_add_emod x R; omega⟩
    have := Int.dvd_sub hxp hd
    refine dve this ?_
    rw [Int.natCast_add, Int.natCast_add, Int.toNat_of_nonneg h1]
    split <;> omega
theorem TMk_each {s1 st1 st2 pe1 bc : Nat → Nat} {mi t : Nat} (ht : TMk s1 st1 st2 pe1 bc mi t) {p q : Nat} (hp : p < 4) (hq : q < 4) (l1 : 0 < s1 p) (l2 : 0 < s1 q) :
    ((Nat.gcd (pe1 p) (pe1 q) : Nat) : Int) ∣ ((st2 (bc p) : Int) - st1 p - (if mirB mi (bc p / 2) then (pe1 p / 2 : Nat) else (0 : Nat))) - ((st2 (bc q) : Int) - st1 q - (if mirB mi (bc q / 2) then (pe1 q / 2 : Nat) else (0 : Nat))) := by
  have h1 := (ht p hp l1).2
  have h2 := (ht q hq l2).2
  rw [md] at h1 h2
  have g1 := Int.dvd_trans (Int.natCast_dvd_natCast.mpr (Nat.gcd_dvd_left (pe1 p) (pe1 q))) h1
  have g2 := Int.dvd_trans (Int.natCast_dvd_natCast.mpr (Nat.gcd_dvd_right (pe1 p) (pe1 q))) h2
  have := Int.dvd_sub g2 g1
  refine dve this ?_
  split <;> split <;> omega
end CRT
