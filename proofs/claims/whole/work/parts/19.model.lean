section MODEL
variable {G : GX} {h : mH} {Q : mO → mH → Prop}
theorem ar_neg (u T s : Int) : (-4 * (2 * u - T) * (T - (2 * u - T)) * s).tdiv (T * T) = -((4 * (2 * u - T) * (2 * T - 2 * u) * s).tdiv (T * T)) := by
  have e1 : T - (2 * u - T) = 2 * T - 2 * u := by omega
  rw [e1, Int.neg_mul, Int.neg_mul, Int.neg_mul, Int.neg_tdiv]
theorem mat_83 {p : Nat} {kk T u s : Int} (hi : Iv h) (hp : p < 4) (hk : gI h 84 p = iI kk) (a1 : 0 ≤ kk) (a2 : kk ≤ 2) (h1 : 0 ≤ u) (h2 : u < T) (h3 : T ≤ 49) (h4 : 0 ≤ s) (h5 : s ≤ 90) (k : Q (.inl (some (.int (iI (posI kk T u s))))) h) :
    Vw G jX11_at 83 [some (.ref 83), none, none, some (.int (iI p)), none, some (.int (iI T)), some (.int (iI u)), some (.int (iI s)), none] [] h Q := by
  have hx : (iI p).toNatClampNeg = p := by rw [iI_ix ⟨by omega, by omega⟩]; rfl
  have rT : r31 T := ⟨by omega, by omega⟩
  have r0 : r31 0 := ⟨by decide, by decide⟩
  have rk : r31 kk := ⟨by omega, by omega⟩
  have z0 : (0 : Int32) = iI 0 := by decide
  have z1 : (1 : Int32) = iI 1 := by decide
  have e4 : (4 : Int32) * iI u = iI (4 * u) := by rw [iI_lit 4, iI_mul]; rfl
  have e2 : (2 : Int32) * iI u = iI (2 * u) := by rw [iI_lit 2, iI_mul]; rfl
  have e3T : (3 : Int32) * iI T = iI (3 * T) := by rw [iI_lit 3, iI_mul]; rfl
  have e2T : (2 : Int32) * iI T = iI (2 * T) := by rw [iI_lit 2, iI_mul]; rfl
  have e4T : (4 : Int32) * iI T = iI (4 * T) := by rw [iI_lit 4, iI_mul]; rfl
  have f4 : ∀ x : Int, (4 : Int32) * iI x = iI (4 * x) := fun x => by rw [iI_lit 4, iI_mul]; rfl
  have r4 : r31 (4 * u) := ⟨by omega, by omega⟩
  have r2 : r31 (2 * u) := ⟨by omega, by omega⟩
  have r3T : r31 (3 * T) := ⟨by omega, by omega⟩
  have hTT := mulb (a := T) (b := T) (A := 49) (B := 49) (by omega) (by omega) (by omega) (by omega) (by omega)
  have hTp : 0 < T * T := Int.mul_pos (by omega) (by omega)
  have rTT : r31 (T * T) := ⟨by omega, by omega⟩
  have v4 : vp_in (iI p) 4 := iI_in (by omega) (by omega) (by omega)
  have nT : ¬ iI T = 0 := by rw [z0, iI_eq rT r0]; omega
  have nTT : ¬ iI T * iI T = 0 := by rw [iI_mul, z0, iI_eq rTT r0]; omega
  have bsl := slI_b h1 h2 h3
  have bar := arI_b h1 h2 h3
  refine bX11_at_83 hi ⟨v4, ?_⟩
  rw [hx, hk, e2, e4, e3T, e2T, e4T]
  simp only [iI_sub, f4]
  rw [z0, iI_eq rk r0, z1, iI_eq rk ⟨by decide, by decide⟩, iI_lt rT r2, iI_le rT r2, iI_lt rT r4, iI_lt r3T r4]
  rw [← z0]
  refine ⟨fun c => ⟨v4, fun c1 => ⟨fun c2 => ⟨nTT, ?_⟩, fun c2 => ⟨nTT, ?_⟩⟩, fun c1 => ⟨fun c2 => ?_, fun c2 => ?_⟩⟩, fun c => ⟨fun c1 => ⟨fun c2 => ⟨nT, ?_⟩, fun c2 => ⟨nT, ?_⟩⟩, fun c1 => ⟨nT, ?_⟩⟩⟩
  · subst c1
    rw [posI_ar] at k
    unfold arI at k bar
    rw [if_neg (by omega)] at k bar
    rw [ar_neg] at k
    have b2 := mulb (a := -4 * (2 * u - T) * (T - (2 * u - T))) (b := s) (A := 20000) (B := 90) bar.1 bar.2 h4 h5 (by omega)
    have e1 : -4 * (2 * u - T) * (T - (2 * u - T)) * s = -(4 * (2 * u - T) * (2 * T - 2 * u) * s) := by
      have e1 : T - (2 * u - T) = 2 * T - 2 * u := by omega
      rw [e1, Int.neg_mul, Int.neg_mul, Int.neg_mul]
    rw [e1] at b2
    rw [iI_mul, iI_mul, iI_mul, iI_div ⟨by omega, by omega⟩ rTT, z0, iI_sub]
    rw [Int.zero_sub]
    exact k
  · subst c1
    rw [posI_ar] at k
    unfold arI at k bar
    rw [if_pos (by omega)] at k bar
    have b2 := mulb (b := s) (A := 20000) (B := 90) bar.1 bar.2 h4 h5 (by omega)
    rw [iI_mul, iI_mul, iI_mul, iI_div ⟨by omega, by omega⟩ rTT]
    exact k
  · unfold posI at k
    rw [if_neg c, if_neg c1, if_neg (by omega)] at k
    rw [z0, iI_sub, Int.zero_sub]
    exact k
  · unfold posI at k
    rw [if_neg c, if_neg c1, if_pos (by omega)] at k
    exact k
  · subst c
    rw [posI_sl] at k
    unfold slI at k bsl
    rw [if_neg (by omega), if_neg (by omega)] at k bsl
    have b2 := mulb (b := s) (A := 200) (B := 90) bsl.1 bsl.2 h4 h5 (by omega)
    rw [iI_mul, iI_div ⟨by omega, by omega⟩ rT]
    exact k
  · subst c
    rw [posI_sl] at k
    unfold slI at k bsl
    rw [if_neg (by omega), if_pos (by omega)] at k bsl
    have b2 := mulb (b := s) (A := 200) (B := 90) bsl.1 bsl.2 h4 h5 (by omega)
    rw [iI_mul, iI_div ⟨by omega, by omega⟩ rT]
    exact k
  · subst c
    rw [posI_sl] at k
    unfold slI at k bsl
    rw [if_pos (by omega)] at k bsl
    have b2 := mulb (b := s) (A := 200) (B := 90) bsl.1 bsl.2 h4 h5 (by omega)
    rw [iI_mul, iI_div ⟨by omega, by omega⟩ rT]
    exact k
theorem mat_41 {p : Nat} {kk T u lo sz : Int} (hi : Iv h) (hp : p < 4) (hk : gI h 84 p = iI kk) (hlo : gI h 86 p = iI lo) (a1 : 0 ≤ kk) (a2 : kk ≤ 2) (b1 : 0 ≤ lo) (b2 : lo ≤ 99) (h1 : 0 ≤ u) (h2 : u < T) (h3 : T ≤ 49) (h4 : 0 ≤ sz) (h5 : sz ≤ 90) (m : Nat) (k : Q (.inl (some (.int (iI (posI kk T u (fdN lo m sz)))))) h) (hm : m ≤ 100000000) :
    ∀ n i : Nat, i + n = m → Vw G jX11_at 41 [some (.ref 83), none, none, some (.int (iI p)), none, some (.int (iI T)), some (.int (iI u)), some (.int (iI (fdN lo i sz))), some (.int (iI n))] [] h Q := by
  have hx : (iI p).toNatClampNeg = p := by rw [iI_ix ⟨by omega, by omega⟩]; rfl
  have z0 : (0 : Int32) = iI 0 := by decide
  have r0 : r31 0 := ⟨by decide, by decide⟩
  have v4 : vp_in (iI p) 4 := iI_in (by omega) (by omega) (by omega)
  intro n
  induction n with
  | zero =>
    intro i hin
    have : i = m := by omega
    subst this
    have hb := fdN_le b1 (by omega) h4 i
    refine bX11_at_41 hi ⟨fun _ => mat_83 hi hp hk a1 a2 h1 h2 h3 hb.1 (by omega) k, fun c => absurd (by decide) c⟩
  | succ n ih =>
    intro i hin
    have hb := fdN_le b1 (by omega) h4 i
    refine bX11_at_41 hi ⟨fun c => ?_, fun _ => ⟨fun c => ?_, fun _ => ⟨v4, fun c => ?_, fun c => ⟨v4, ?_⟩⟩⟩⟩
    · rw [z0, iI_le ⟨by omega, by omega⟩ r0] at c
      omega
    · rw [z0, iI_le ⟨by omega, by omega⟩ r0] at c
      have hz : fdN lo i sz = 0 := by omega
      have := fdN_stays i (n + 1) hz
      rw [hin] at this
      refine mat_83 hi hp hk a1 a2 h1 h2 h3 hb.1 (by omega) ?_
      rw [hz]
      rw [this] at k
      exact k
    · rw [hx, hlo, z0, iI_le ⟨by omega, by omega⟩ r0] at c
      have hz : lo = 0 := by omega
      subst hz
      refine mat_83 hi hp hk a1 a2 h1 h2 h3 hb.1 (by omega) ?_
      rw [fdN_lo0 h4]
      rw [fdN_lo0 h4] at k
      exact k
    · rw [hx, hlo]
      have ev : (iI (fdN lo i sz) * (100 - iI lo)) / (100 : Int32) = iI (fdN lo (i + 1) sz) := by
        rw [iI_lit 100, iI_sub, iI_mul, iI_div]
        · rfl
        · have g1 : 0 ≤ fdN lo i sz * (100 - lo) := Int.mul_nonneg hb.1 (by omega)
          have g2 : fdN lo i sz * (100 - lo) ≤ fdN lo i sz * 100 := Int.mul_le_mul_of_nonneg_left (by omega) hb.1
          exact ⟨by show (_ : Int) ≤ fdN lo i sz * (100 - lo); omega, by show fdN lo i sz * (100 - lo) ≤ _; omega⟩
        · exact ⟨by decide, by decide⟩
      have en : iI ((n + 1 : Nat) : Int) + (-1) = iI (n : Int) := by
        rw [show (-1 : Int32) = iI (-1) from by decide, iI_add]
        congr 1
        omega
      rw [ev, en]
      exact ih (i + 1) (by omega)
/-- at(row, from, p, t) of the reference -/
theorem mX11_at {a f n p t : Nat} {kk ln lo pe sa sz : Int} (hi : Iv h) (k1 : kd a = (100, n)) (hf : f + 12 ≤ n) (hn9 : n ≤ 1000) (hp : p < 4) (ht : t ≤ 10000000) (hn : PnOk h 84 85 86 a f p kk ln lo pe sa sz)
    (k : Q (.inl (some (.int (iI (atI kk ln lo pe sa sz t))))) h) : WM G jX11_at [.ref 83, .ref a, .int (iI f), .int (iI p), .int (iI t)] h Q := by
  obtain ⟨n1, n2, n3, n4, n5, n6, a1, a2, a3, a4, a5, a6, a7, a8, a9, a10, a11, a12⟩ := hn
  have hx : (iI p).toNatClampNeg = p := by rw [iI_ix ⟨by omega, by omega⟩]; rfl
  have z0 : (0 : Int32) = iI 0 := by decide
  have r0 : r31 0 := ⟨by decide, by decide⟩
  have rT : r31 (ln + pe) := ⟨by omega, by omega⟩
  have v4 : vp_in (iI p) 4 := iI_in (by omega) (by omega) (by omega)
  have g0 : iI (f : Int) + iI (p : Int) = iI ((f + p : Nat) : Int) := by rw [iI_add]; congr 1
  have g4 : (iI (f : Int) + 4) + iI (p : Int) = iI ((f + (4 + p) : Nat) : Int) := by
    rw [iI_lit 4, iI_add, iI_add]; congr 1; show (f : Int) + 4 + p = _; omega
  have g8 : (iI (f : Int) + 8) + iI (p : Int) = iI ((f + (8 + p) : Nat) : Int) := by
    rw [iI_lit 8, iI_add, iI_add]; congr 1; show (f : Int) + 8 + p = _; omega
  have x0 : (iI ((f + p : Nat) : Int)).toNatClampNeg = f + p := by rw [iI_ix ⟨by omega, by omega⟩]; rfl
  have x4 : (iI ((f + (4 + p) : Nat) : Int)).toNatClampNeg = f + (4 + p) := by rw [iI_ix ⟨by omega, by omega⟩]; rfl
  have x8 : (iI ((f + (8 + p) : Nat) : Int)).toNatClampNeg = f + (8 + p) := by rw [iI_ix ⟨by omega, by omega⟩]; rfl
  have hTn : (((ln + pe).toNat : Nat) : Int) = ln + pe := Int.toNat_of_nonneg (by omega)
  have hu : iI ((t : Int) + sa) - iI ((t : Int) + sa) / iI (ln + pe) * iI (ln + pe) = iI (((t : Int) + sa) % (ln + pe)) := by
    rw [iI_rem ⟨by omega, by omega⟩ rT, Int.tmod_eq_emod_of_nonneg (by omega)]
  have u1 := Int.emod_nonneg ((t : Int) + sa) (show ln + pe ≠ 0 by omega)
  have u2 := Int.emod_lt_of_pos ((t : Int) + sa) (show 0 < ln + pe by omega)
  have hdv : iI (t : Int) / iI (ln + pe) = iI ((t / (ln + pe).toNat : Nat) : Int) := by
    rw [iI_div ⟨by omega, by omega⟩ rT, Int.tdiv_eq_ediv_of_nonneg (by omega)]
    congr 1
    rw [← hTn]
    exact (Int.natCast_ediv t (ln + pe).toNat).symm
  have hdl : t / (ln + pe).toNat ≤ t := Nat.div_le_self _ _
  have nT : ¬ iI (ln + pe) = 0 := by rw [z0, iI_eq rT r0]; omega
  refine eX11_at hi k1 (eX11_period hi k1 ⟨v4, by rw [g0]; exact iI_in (by omega) (by omega) (by omega), ?_⟩)
  rw [g0, x0, hx, n2, n4, iI_add]
  show Vw G jX11_at 7 [some (.ref 83), some (.ref a), some (.int (iI f)), some (.int (iI p)), some (.int (iI t)), none, none, none, none] [.int (iI (ln + pe))] h Q
  refine bX11_at_7 hi k1 ⟨by rw [g4]; exact iI_in (by omega) (by omega) (by omega), nT, by rw [g8]; exact iI_in (by omega) (by omega) (by omega), nT, ?_⟩
  rw [g4, x4, n5, iI_add, hu, g8, x8, n6, hdv]
  exact mat_41 hi hp n1 n3 a1 a2 a5 a6 u1 u2 (by omega) a11 a12 (t / (ln + pe).toNat) k (by omega) (t / (ln + pe).toNat) 0 (Nat.zero_add _)
end MODEL
