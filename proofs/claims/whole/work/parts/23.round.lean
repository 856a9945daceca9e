section ROUND
variable {G : GX} {h : mH} {Q : mO → mH → Prop}
theorem gcd_loop (hi : Iv h) : ∀ (b a s : Nat), a ≤ 100000000 → s + b ≤ 60 → Q (.inl (some (.int (iI (Nat.gcd a b : Nat))))) h → Vw G jX10_greatestCommon 7 [none, none, some (.int (iI a)), some (.int (iI b)), some (.int (iI s)), none] [] h Q := by
  intro b
  induction b using Nat.strongRecOn with
  | ind b ih =>
    intro a s ha hs k
    refine bX10_greatestCommon_7 hi ⟨fun c => ?_, fun _ => ⟨fun c => ?_, fun c => ⟨c, ?_⟩⟩⟩
    · rw [show (100 : Int32) = iI 100 from by decide, iI_le ⟨by decide, by decide⟩ ⟨by omega, by omega⟩] at c
      omega
    · rw [i32_0, iI_eq ⟨by omega, by omega⟩ ⟨by decide, by decide⟩] at c
      have : b = 0 := by omega
      subst this
      rw [Nat.gcd_zero_right] at k
      exact k
    · rw [i32_0, iI_eq ⟨by omega, by omega⟩ ⟨by decide, by decide⟩] at c
      have hb : 0 < b := by omega
      rw [iI_rem ⟨by omega, by omega⟩ ⟨by omega, by omega⟩, show (a : Int).tmod (b : Int) = ((a % b : Nat) : Int) from rfl, show iI (s : Int) + 1 = iI ((s + 1 : Nat) : Int) from by rw [iI_lit 1, iI_add]; congr 1]
      have hm := Nat.mod_lt a hb
      refine ih (a % b) hm b (s + 1) (by omega) (by omega) ?_
      rw [show Nat.gcd b (a % b) = Nat.gcd a b from by rw [Nat.gcd_comm, ← Nat.gcd_rec, Nat.gcd_comm]]
      exact k
theorem mX10_greatestCommon {a b : Nat} (hi : Iv h) (ha : a ≤ 100000000) (hb : b ≤ 60) (k : Q (.inl (some (.int (iI (Nat.gcd a b : Nat))))) h) : WM G jX10_greatestCommon [.int (iI a), .int (iI b)] h Q := by
  refine eX10_greatestCommon hi ?_
  rw [i32_0]
  exact gcd_loop hi b a 0 ha (by omega) k
/-- a pendulum's period, and the ticks round -/
def perV (h : mH) (a2 a4 f p : Nat) : Nat := ((gI h a2 p).toInt + (gI h a4 (f + p)).toInt).toNat
def rdV (h : mH) (a2 a4 f : Nat) : Nat → Nat
  | 0 => 1
  | p + 1 => if (gI h a4 (f + (8 + p))).toInt = 0 then rdV h a2 a4 f p else Nat.lcm (rdV h a2 a4 f p) (perV h a2 a4 f p)
theorem perV_b {a1 a2 a3 a4 f p : Nat} (hr : PnR h a1 a2 a3 a4 f p) : 2 ≤ perV h a2 a4 f p ∧ perV h a2 a4 f p ≤ 49 := by
  obtain ⟨_, ⟨b1, b2⟩, _, ⟨d1, d2⟩, _⟩ := hr
  unfold perV
  omega
theorem perV_i {a1 a2 a3 a4 f p : Nat} (hr : PnR h a1 a2 a3 a4 f p) : gI h a2 p + gI h a4 (f + p) = iI (perV h a2 a4 f p : Nat) := by
  obtain ⟨_, ⟨b1, b2⟩, _, ⟨d1, d2⟩, _⟩ := hr
  conv => lhs; rw [← iI_self (gI h a2 p), ← iI_self (gI h a4 (f + p)), iI_add]
  unfold perV
  congr 1
  omega
theorem rdV_b {a1 a2 a3 a4 f : Nat} (hr : ∀ p, p < 4 → PnR h a1 a2 a3 a4 f p) : ∀ n, n ≤ 4 → 1 ≤ rdV h a2 a4 f n ∧ rdV h a2 a4 f n ≤ 49 ^ n
  | 0, _ => ⟨Nat.le_refl _, Nat.le_refl _⟩
  | n + 1, hn => by
    obtain ⟨i1, i2⟩ := rdV_b hr n (by omega)
    obtain ⟨p1, p2⟩ := perV_b (hr n (by omega))
    have hm : rdV h a2 a4 f n * perV h a2 a4 f n ≤ 49 ^ n * 49 := Nat.mul_le_mul i2 p2
    unfold rdV
    split
    · refine ⟨i1, Nat.le_trans i2 ?_⟩
      rw [Nat.pow_succ]
      omega
    · refine ⟨Nat.lcm_pos (by omega) (by omega), ?_⟩
      rw [Nat.pow_succ]
      exact Nat.le_trans (Nat.div_le_self _ _) hm
theorem rdV_b4 {a1 a2 a3 a4 f : Nat} (hr : ∀ p, p < 4 → PnR h a1 a2 a3 a4 f p) (n : Nat) (hn : n ≤ 4) : 1 ≤ rdV h a2 a4 f n ∧ rdV h a2 a4 f n ≤ 5764801 := by
  obtain ⟨i1, i2⟩ := rdV_b hr n hn
  exact ⟨i1, Nat.le_trans i2 (Nat.le_trans (Nat.pow_le_pow_right (by omega) hn) (by decide))⟩
theorem mX2_ticksRound {r : Nat} (hi : Iv h) (k0 : kd r = (2, 11)) (hf : FR h r) (k : Q (.inl (some (.int (iI (rdV h (r + 2) (r + 4) 0 4 : Nat))))) h) : WM G jX2_ticksRound [.ref r] h Q := by
  refine eX2_ticksRound hi k0 ?_
  have loop : ∀ m i : Nat, i + m = 4 → Vw G jX2_ticksRound 4 [some (.ref r), some (.int (iI (rdV h (r + 2) (r + 4) 0 i : Nat))), some (.int (iI i)), none] [] h Q := by
    intro m
    induction m with
    | zero =>
      intro i him
      have : i = 4 := by omega
      subst this
      exact bX2_ticksRound_4 hi k0 ⟨fun _ => k, fun c => absurd (by decide) c⟩
    | succ m ih =>
      intro i him
      have hil : i < 4 := by omega
      have hr := hf i hil
      have hR : ∀ p, p < 4 → PnR h (r + 1) (r + 2) (r + 3) (r + 4) 0 p := hf
      obtain ⟨p1, p2⟩ := perV_b hr
      obtain ⟨q1, q2⟩ := rdV_b4 hR i (by omega)
      have hper := perV_i hr
      rw [Nat.zero_add] at hper
      have h8 : (8 : Int32) + iI (i : Int) = iI ((8 + i : Nat) : Int) := by rw [iI_lit 8, iI_add]; congr 1
      have h8x : (iI ((8 + i : Nat) : Int)).toNatClampNeg = 8 + i := by rw [iI_ix ⟨by omega, by omega⟩]; rfl
      have e1 : iI (i : Int) + 1 = iI ((i + 1 : Nat) : Int) := by rw [iI_lit 1, iI_add]; congr 1
      have nxt : ∀ v : Nat, v = rdV h (r + 2) (r + 4) 0 (i + 1) → Vw G jX2_ticksRound 45 [some (.ref r), some (.int (iI v)), some (.int (iI i)), none] [] h Q := by
        intro v hv
        subst hv
        refine bX2_ticksRound_45 hi k0 ?_
        rw [e1]
        exact ih (i + 1) (by omega)
      refine bX2_ticksRound_4 hi k0 ⟨fun c => ?_, fun _ => mX2_period hi k0 hil ?_⟩
      · rw [iI_lit 4, iI_le ⟨by decide, by decide⟩ ⟨by omega, by omega⟩] at c
        have c : (4 : Int) ≤ i := c
        omega
      rw [hper]
      refine bX2_ticksRound_15 hi k0 (mX10_greatestCommon hi (by omega) (by omega) ?_)
      have hg : 0 < Nat.gcd (rdV h (r + 2) (r + 4) 0 i) (perV h (r + 2) (r + 4) 0 i) := Nat.gcd_pos_of_pos_left _ q1
      have hg2 : Nat.gcd (rdV h (r + 2) (r + 4) 0 i) (perV h (r + 2) (r + 4) 0 i) ≤ perV h (r + 2) (r + 4) 0 i := Nat.gcd_le_right _ (by omega)
      have hz : ∀ z : Int32, z ≤ 0 ↔ z.toInt ≤ 0 := fun z => by rw [i32_0, i32_le ⟨by decide, by decide⟩]
      have hsz := hr.2.2.2.2.2
      rw [Nat.zero_add] at hsz
      obtain ⟨s1, s2⟩ := hsz
      refine bX2_ticksRound_18 hi k0 ⟨by rw [h8]; exact iI_in (by omega) (by omega) (by omega), fun c => nxt _ ?_, fun c => ⟨fun c2 => ?_, fun c2 => ⟨fun c3 => ?_, mX2_period hi k0 hil ?_⟩⟩⟩
      · rw [h8, h8x, hz] at c
        conv => rhs; unfold rdV
        rw [Nat.zero_add, if_pos (by omega)]
      · rw [hz, iI_toInt ⟨by omega, by omega⟩] at c2
        omega
      · rw [i32_0, iI_eq ⟨by omega, by omega⟩ ⟨by decide, by decide⟩] at c3
        omega
      · rw [hper]
        refine bX2_ticksRound_43 hi k0 ?_
        rw [iI_div ⟨by omega, by omega⟩ ⟨by omega, by omega⟩, iI_mul, show ((rdV h (r + 2) (r + 4) 0 i : Nat) : Int).tdiv ((Nat.gcd (rdV h (r + 2) (r + 4) 0 i) (perV h (r + 2) (r + 4) 0 i) : Nat) : Int) = ((rdV h (r + 2) (r + 4) 0 i / Nat.gcd (rdV h (r + 2) (r + 4) 0 i) (perV h (r + 2) (r + 4) 0 i) : Nat) : Int) from rfl, ← Int.natCast_mul]
        refine nxt _ ?_
        rw [h8, h8x, hz] at c
        conv => rhs; unfold rdV
        rw [Nat.zero_add, if_neg (by omega)]
        unfold Nat.lcm
        rw [Nat.div_mul_right_comm (Nat.gcd_dvd_left _ _)]
  exact loop 4 0 (by omega)
theorem mX11_roundOf {a f n : Nat} (hi : Iv h) (k1 : kd a = (100, n)) (hf : f + 12 ≤ n) (hn9 : n ≤ 1000) (hm : MR h a f) (k : Q (.inl (some (.int (iI (rdV h 85 a f 4 : Nat))))) h) : WM G jX11_roundOf [.ref 83, .ref a, .int (iI f)] h Q := by
  refine eX11_roundOf hi k1 ?_
  have loop : ∀ m i : Nat, i + m = 4 → Vw G jX11_roundOf 5 [some (.ref 83), some (.ref a), some (.int (iI f)), some (.int (iI (rdV h 85 a f i : Nat))), some (.int (iI i)), none] [] h Q := by
    intro m
    induction m with
    | zero =>
      intro i him
      have : i = 4 := by omega
      subst this
      exact bX11_roundOf_5 hi k1 ⟨fun _ => k, fun c => absurd (by decide) c⟩
    | succ m ih =>
      intro i him
      have hil : i < 4 := by omega
      have hr := hm i hil
      obtain ⟨p1, p2⟩ := perV_b hr
      obtain ⟨q1, q2⟩ := rdV_b4 (h := h) hm i (by omega)
      have hper := perV_i hr
      have h8 : iI (f : Int) + 8 + iI (i : Int) = iI ((f + (8 + i) : Nat) : Int) := by rw [show (8 : Int32) = iI 8 from by decide, iI_add, iI_add]; congr 1; omega
      have h8x : (iI ((f + (8 + i) : Nat) : Int)).toNatClampNeg = f + (8 + i) := by rw [iI_ix ⟨by omega, by omega⟩]; rfl
      have e1 : iI (i : Int) + 1 = iI ((i + 1 : Nat) : Int) := by rw [iI_lit 1, iI_add]; congr 1
      have nxt : ∀ v : Nat, v = rdV h 85 a f (i + 1) → Vw G jX11_roundOf 50 [some (.ref 83), some (.ref a), some (.int (iI f)), some (.int (iI v)), some (.int (iI i)), none] [] h Q := by
        intro v hv
        subst hv
        refine bX11_roundOf_50 hi k1 ?_
        rw [e1]
        exact ih (i + 1) (by omega)
      have hz : gI h a (f + (8 + i)) = 0 ↔ (gI h a (f + (8 + i))).toInt = 0 := by rw [i32_0, i32_eq ⟨by decide, by decide⟩]
      refine bX11_roundOf_5 hi k1 ⟨fun c => ?_, fun _ => ⟨by rw [h8]; exact iI_in (by omega) (by omega) (by omega), fun c => ?_, fun c => nxt _ ?_⟩⟩
      · rw [iI_lit 4, iI_le ⟨by decide, by decide⟩ ⟨by omega, by omega⟩] at c
        have c : (4 : Int) ≤ i := c
        omega
      · rw [h8, h8x, hz] at c
        have hN : rdV h 85 a f (i + 1) = Nat.lcm (rdV h 85 a f i) (perV h 85 a f i) := by
          conv => lhs; unfold rdV
          rw [if_neg c]
        have hL := rdV_b4 (h := h) hm (i + 1) (by omega)
        rw [hN] at hL nxt
        obtain ⟨e, he⟩ : ∃ e, e = rdV h 85 a f i := ⟨_, rfl⟩
        obtain ⟨t, ht⟩ : ∃ t, t = perV h 85 a f i := ⟨_, rfl⟩
        rw [← he, ← ht] at hL nxt
        rw [← he] at q1 q2 ⊢
        rw [← ht] at p1 p2 hper
        obtain ⟨L, hLe⟩ : ∃ L, L = Nat.lcm e t := ⟨_, rfl⟩
        rw [← hLe] at hL nxt
        have inner : ∀ d v : Nat, v + d = L → 0 < v → e ∣ v → Vw G jX11_roundOf 29 [some (.ref 83), some (.ref a), some (.int (iI f)), some (.int (iI v)), some (.int (iI i)), some (.int (iI e))] [] h Q := by
          intro d
          induction d using Nat.strongRecOn with
          | ind d ihd =>
            intro v hv hv0 hev
            refine bX11_roundOf_29 hi k1 (mX11_period hi k1 hf hn9 hil ?_)
            rw [hper]
            refine bX11_roundOf_38 hi k1 ⟨fun c3 => ?_, fun c3 => nxt _ ?_, fun c3 => ?_⟩
            · rw [i32_0, iI_eq ⟨by omega, by omega⟩ ⟨by decide, by decide⟩] at c3
              omega
            · have hmod := Nat.mod_lt v (show 0 < t by omega)
              rw [iI_rem ⟨by omega, by omega⟩ ⟨by omega, by omega⟩, show (v : Int).tmod (t : Int) = ((v % t : Nat) : Int) from rfl, i32_0, iI_eq ⟨by omega, by omega⟩ ⟨by decide, by decide⟩] at c3
              have hd : t ∣ v := Nat.dvd_of_mod_eq_zero (by omega)
              have := Nat.le_of_dvd hv0 (Nat.lcm_dvd hev hd)
              omega
            · have hmod := Nat.mod_lt v (show 0 < t by omega)
              rw [iI_rem ⟨by omega, by omega⟩ ⟨by omega, by omega⟩, show (v : Int).tmod (t : Int) = ((v % t : Nat) : Int) from rfl, i32_0, iI_eq ⟨by omega, by omega⟩ ⟨by decide, by decide⟩] at c3
              have hd : d ≠ 0 := by
                intro h0
                have : v = L := by omega
                have hdv : t ∣ v := by rw [this, hLe]; exact Nat.dvd_lcm_right _ _
                have := Nat.mod_eq_zero_of_dvd hdv
                omega
              have heL : e ∣ L := by rw [hLe]; exact Nat.dvd_lcm_left _ _
              have hed : e ∣ d := by
                rw [show d = L - v from by omega]
                exact Nat.dvd_sub heL hev
              have hle := Nat.le_of_dvd (by omega) hed
              rw [iI_add, ← Int.natCast_add]
              exact ihd (d - e) (by omega) (v + e) (by omega) (by omega) (Nat.dvd_add hev (Nat.dvd_refl e))
        have heL : e ≤ L := Nat.le_of_dvd (by omega) (by rw [hLe]; exact Nat.dvd_lcm_left _ _)
        exact inner (L - e) e (by omega) q1 (Nat.dvd_refl e)
      · rw [h8, h8x, hz] at c
        conv => rhs; unfold rdV
        rw [if_pos c]
  exact loop 4 0 (by omega)
end ROUND
