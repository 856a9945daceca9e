section WHERE
theorem mulb {a b A B : Int} (h1 : -A ≤ a) (h2 : a ≤ A) (h3 : 0 ≤ b) (h4 : b ≤ B) (h5 : 0 ≤ A) : -(A * B) ≤ a * b ∧ a * b ≤ A * B := by
  have g1 : a * b ≤ A * b := Int.mul_le_mul_of_nonneg_right h2 h3
  have g2 : A * b ≤ A * B := Int.mul_le_mul_of_nonneg_left h4 h5
  have g3 : -A * b ≤ a * b := Int.mul_le_mul_of_nonneg_right h1 h3
  rw [Int.neg_mul] at g3
  omega
theorem posI_0 (kk T u : Int) : posI kk T u 0 = 0 := by
  unfold posI
  simp
theorem fdN_0 (lo : Int) (n : Nat) : fdN lo n 0 = 0 := by
  have := fdN_stays (lo := lo) (s := 0) 0 n rfl
  simpa using this
def slI (u T : Int) : Int := if 4 * u ≤ T then 4 * u else if 4 * u ≤ 3 * T then 2 * T - 4 * u else 4 * u - 4 * T
theorem slope_iI {u T : Int} (h1 : 0 ≤ u) (h2 : u < T) (h3 : T ≤ 49) : fX2_slope (4 * iI u) (iI T) = iI (slI u T) := by
  have e4 : (4 : Int32) * iI u = iI (4 * u) := by rw [iI_lit 4, iI_mul]; rfl
  have e3 : (3 : Int32) * iI T = iI (3 * T) := by rw [iI_lit 3, iI_mul]; rfl
  have e2 : (2 : Int32) * iI T = iI (2 * T) := by rw [iI_lit 2, iI_mul]; rfl
  have e5 : (4 : Int32) * iI T = iI (4 * T) := by rw [iI_lit 4, iI_mul]; rfl
  have rA : r31 (4 * u) := ⟨by omega, by omega⟩
  have rB : r31 T := ⟨by omega, by omega⟩
  have rC : r31 (3 * T) := ⟨by omega, by omega⟩
  unfold fX2_slope slI
  rw [e4, e3, e2, e5]
  simp only [iI_lt rB rA, iI_lt rC rA, iI_le rA rB, iI_le rA rC, iI_sub]
  repeat' split
  all_goals first | rfl | (exfalso; omega)
def arI (u T : Int) : Int := if 2 * u ≤ T then 4 * (2 * u) * (T - 2 * u) else -4 * (2 * u - T) * (T - (2 * u - T))
theorem arch_iI {u T : Int} (h1 : 0 ≤ u) (h2 : u < T) (h3 : T ≤ 49) : fX2_arch (2 * iI u) (iI T) = iI (arI u T) := by
  have e4 : (2 : Int32) * iI u = iI (2 * u) := by rw [iI_lit 2, iI_mul]; rfl
  have rA : r31 (2 * u) := ⟨by omega, by omega⟩
  have rB : r31 T := ⟨by omega, by omega⟩
  unfold fX2_arch arI
  rw [e4]
  simp only [iI_lt rB rA, iI_le rA rB, iI_lit, iI_neg, iI_sub, iI_mul]
  repeat' split
  all_goals first | rfl | (exfalso; omega)
theorem slI_b {u T : Int} (h1 : 0 ≤ u) (h2 : u < T) (h3 : T ≤ 49) : -200 ≤ slI u T ∧ slI u T ≤ 200 := by
  unfold slI
  repeat' split
  all_goals omega
theorem arI_b {u T : Int} (h1 : 0 ≤ u) (h2 : u < T) (h3 : T ≤ 49) : -20000 ≤ arI u T ∧ arI u T ≤ 20000 := by
  unfold arI
  split
  · have := mulb (a := 4 * (2 * u)) (b := T - 2 * u) (A := 400) (B := 49) (by omega) (by omega) (by omega) (by omega) (by omega)
    omega
  · have := mulb (a := -4 * (2 * u - T)) (b := T - (2 * u - T)) (A := 400) (B := 49) (by omega) (by omega) (by omega) (by omega) (by omega)
    omega
theorem posI_sl (T u s : Int) : posI 0 T u s = (slI u T * s).tdiv T := by
  unfold posI slI
  rw [if_pos rfl]
  repeat' split
  all_goals rfl
theorem posI_ar (T u s : Int) : posI 1 T u s = (arI u T * s).tdiv (T * T) := by
  unfold posI arI
  rw [if_neg (by decide), if_pos rfl]
  repeat' split
  all_goals rfl
variable {G : GX} {h : mH} {Q : mO → mH → Prop}
theorem where_99 {r p : Nat} {kk T u s : Int} (hi : Iv h) (k0 : kd r = (2, 11)) (hp : p < 4) (hk : gI h (r + 1) p = iI kk) (a1 : 0 ≤ kk) (a2 : kk ≤ 2) (h1 : 0 ≤ u) (h2 : u < T) (h3 : T ≤ 49) (h4 : 0 ≤ s) (h5 : s ≤ 90) (k : Q (.inl (some (.int (iI (posI kk T u s))))) h) :
    Vw G jX2_where 99 [some (.ref r), some (.int (iI p)), none, some (.int (iI T)), some (.int (iI u)), some (.int (iI s)), none] [] h Q := by
  have hx : (iI p).toNatClampNeg = p := by rw [iI_ix ⟨by omega, by omega⟩]; rfl
  have rT : r31 T := ⟨by omega, by omega⟩
  have r0 : r31 0 := ⟨by decide, by decide⟩
  have rk : r31 kk := ⟨by omega, by omega⟩
  have z0 : (0 : Int32) = iI 0 := by decide
  have z1 : (1 : Int32) = iI 1 := by decide
  have hTT := mulb (a := T) (b := T) (A := 49) (B := 49) (by omega) (by omega) (by omega) (by omega) (by omega)
  have hTp : 0 < T * T := Int.mul_pos (by omega) (by omega)
  refine bX2_where_99 hi k0 ⟨iI_in (by omega) (by omega) (by omega), ?_⟩
  rw [hx, hk]
  refine ⟨fun c => ⟨?_, ?_⟩, fun c => ⟨?_, ?_⟩, fun c1 c2 => ⟨fun c => ?_, fun c => ?_⟩⟩
  · rw [z0, iI_eq rT r0]; omega
  · rw [z0, iI_eq rk r0] at c
    subst c
    rw [slope_iI h1 h2 h3, iI_mul, iI_div]
    · rw [posI_sl] at k; exact k
    · have b := slI_b h1 h2 h3
      have := mulb (A := 200) (B := 90) b.1 b.2 h4 h5 (by omega)
      exact ⟨by omega, by omega⟩
    · exact rT
  · rw [iI_mul, z0, iI_eq ⟨by omega, by omega⟩ r0]; omega
  · rw [z1, iI_eq rk ⟨by decide, by decide⟩] at c
    subst c
    rw [arch_iI h1 h2 h3, iI_mul, iI_mul, iI_div]
    · rw [posI_ar] at k; exact k
    · have b := arI_b h1 h2 h3
      have := mulb (A := 20000) (B := 90) b.1 b.2 h4 h5 (by omega)
      exact ⟨by omega, by omega⟩
    · exact ⟨by omega, by omega⟩
  · rw [z0, iI_eq rk r0] at c1
    rw [z1, iI_eq rk ⟨by decide, by decide⟩] at c2
    rw [iI_lit 2, iI_mul, iI_le rT ⟨by show _ ≤ (2 : Int) * u; omega, by show (2 : Int) * u ≤ _; omega⟩] at c
    have c : T ≤ 2 * u := c
    unfold posI at k
    rw [if_neg c1, if_neg c2, if_neg (by omega)] at k
    rw [iI_neg]; exact k
  · rw [z0, iI_eq rk r0] at c1
    rw [z1, iI_eq rk ⟨by decide, by decide⟩] at c2
    rw [iI_lit 2, iI_mul, iI_le rT ⟨by show _ ≤ (2 : Int) * u; omega, by show (2 : Int) * u ≤ _; omega⟩] at c
    have c : ¬ T ≤ 2 * u := c
    unfold posI at k
    rw [if_neg c1, if_neg c2, if_pos (by omega)] at k
    exact k
/-- where(p, tick) -/
theorem mX2_where {r p t : Nat} {kk ln lo pe sa sz : Int} (hi : Iv h) (k0 : kd r = (2, 11)) (hp : p < 4) (ht : t ≤ 10000000) (hn : PnOk h (r + 1) (r + 2) (r + 3) (r + 4) 0 p kk ln lo pe sa sz) (hfd : FdOk h r)
    (k : ∀ h', Sm (cr r) h h' → FdOk h' r → Q (.inl (some (.int (iI (atI kk ln lo pe sa sz t))))) h') : WM G jX2_where [.ref r, .int (iI p), .int (iI t)] h Q := by
  obtain ⟨n1, n2, n3, n4, n5, n6, a1, a2, a3, a4, a5, a6, a7, a8, a9, a10, a11, a12⟩ := hn
  rw [Nat.zero_add] at n4 n5 n6
  have hx : (iI p).toNatClampNeg = p := by rw [iI_ix ⟨by omega, by omega⟩]; rfl
  have h8 : (8 : Int32) + iI p = iI ((8 + p : Nat) : Int) := by rw [iI_lit 8, iI_add]; congr 1
  have h8x : (iI ((8 + p : Nat) : Int)).toNatClampNeg = 8 + p := by rw [iI_ix ⟨by omega, by omega⟩]; rfl
  have h4 : (4 : Int32) + iI p = iI ((4 + p : Nat) : Int) := by rw [iI_lit 4, iI_add]; congr 1
  have h4x : (iI ((4 + p : Nat) : Int)).toNatClampNeg = 4 + p := by rw [iI_ix ⟨by omega, by omega⟩]; rfl
  have z0 : (0 : Int32) = iI 0 := by decide
  have z1 : (1 : Int32) = iI 1 := by decide
  have r0 : r31 0 := ⟨by decide, by decide⟩
  have rT : r31 (ln + pe) := ⟨by omega, by omega⟩
  have v4 : vp_in (iI p) 4 := iI_in (by omega) (by omega) (by omega)
  have hTn : (((ln + pe).toNat : Nat) : Int) = ln + pe := Int.toNat_of_nonneg (by omega)
  have hu : iI ((t : Int) + sa) - iI ((t : Int) + sa) / iI (ln + pe) * iI (ln + pe) = iI (((t : Int) + sa) % (ln + pe)) := by
    rw [iI_rem ⟨by omega, by omega⟩ rT, Int.tmod_eq_emod_of_nonneg (by omega)]
  have u1 := Int.emod_nonneg ((t : Int) + sa) (show ln + pe ≠ 0 by omega)
  have u2 := Int.emod_lt_of_pos ((t : Int) + sa) (show 0 < ln + pe by omega)
  refine eX2_where hi k0 (mX2_period hi k0 hp ?_)
  show Vw G jX2_where 5 [some (.ref r), some (.int (iI p)), some (.int (iI t)), none, none, none, none] [.int (gI h (r + 2) p + gI h (r + 4) p)] h Q
  rw [n2, n4, iI_add]
  refine bX2_where_5 hi k0 ⟨by rw [h8]; exact iI_in (by omega) (by omega) (by omega), fun c => ?_, fun c => ⟨fun c1 => ?_, fun _ => ⟨fun _ => ⟨by rw [h4]; exact iI_in (by omega) (by omega) (by omega), ?_, by rw [h8]; exact iI_in (by omega) (by omega) (by omega), v4, fun cl => ?_, fun cl => ?_⟩, fun c2 => ?_⟩⟩⟩
  · rw [h8, h8x, n6, z0, iI_eq ⟨by omega, by omega⟩ r0] at c
    have := k h Sm.rf hfd
    unfold atI at this
    rw [c, fdN_0, posI_0] at this
    rw [z0]; exact this
  · rw [z1, iI_lt rT ⟨by decide, by decide⟩] at c1
    omega
  · rw [z0, iI_eq rT r0]; omega
  · rw [hx, n3, z0, iI_eq ⟨by omega, by omega⟩ r0] at cl
    rw [h4, h4x, n5, iI_add, hu, h8, h8x, n6]
    refine where_99 hi k0 hp n1 a1 a2 u1 u2 (by omega) a11 a12 ?_
    have := k h Sm.rf hfd
    unfold atI at this
    rw [cl, fdN_lo0 a11] at this
    exact this
  · rw [hx, n3, z0, iI_eq ⟨by omega, by omega⟩ r0] at cl
    rw [h4, h4x, n5, iI_add, hu]
    refine mX2_fade hi k0 hp a5 a6 a11 a12 n3 n6 hfd (fun h' hS hfd' g9 g8 => ?_)
    have hi' := hS.iv hi
    have e1 : gI h' (r + 1) p = iI kk := by rw [hS.gI (by simp [cr])]; exact n1
    show Vw G jX2_where 68 [some (.ref r), some (.int (iI p)), some (.int (iI t)), some (.int (iI (ln + pe))), some (.int (iI (((t : Int) + sa) % (ln + pe)))), none, none] [] h' Q
    have hdv : iI (t : Int) / iI (ln + pe) = iI ((t / (ln + pe).toNat : Nat) : Int) := by
      rw [iI_div ⟨by omega, by omega⟩ rT, Int.tdiv_eq_ediv_of_nonneg (by omega)]
      congr 1
      rw [← hTn]
      exact (Int.natCast_ediv t (ln + pe).toNat).symm
    have hdl : t / (ln + pe).toNat ≤ t := Nat.div_le_self _ _
    generalize hdd : t / (ln + pe).toNat = d at hdv hdl
    obtain ⟨lo', sz', f1, f2, f3, f4, f5, f6, f7⟩ := hfd' p hp
    have el : lo' = lo := (iI_eq ⟨by omega, by omega⟩ ⟨by omega, by omega⟩).mp (f1.symm.trans g9)
    have es : sz' = sz := (iI_eq ⟨by omega, by omega⟩ ⟨by omega, by omega⟩).mp (f2.symm.trans g8)
    subst el
    subst es
    have h90 : ∀ q : Nat, q ≤ 90 → (91 : Int32) * iI p + iI q = iI ((91 * p + q : Nat) : Int) := fun q _ => by rw [iI_lit 91, iI_mul, iI_add]; congr 1
    have h90x : ∀ q : Nat, q ≤ 90 → (iI ((91 * p + q : Nat) : Int)).toNatClampNeg = 91 * p + q := fun q hq => by rw [iI_ix ⟨by omega, by omega⟩]; rfl
    refine bX2_where_68 hi' k0 ⟨?_, ?_⟩
    · rw [z0, iI_eq rT r0]; omega
    · rw [hdv]
      have e90 : (90 : Int32) = iI ((90 : Nat) : Int) := by decide
      have e91 : (91 : Int32) = iI (91 : Int) := by decide
      refine ⟨fun c => ⟨?_, ?_⟩, fun c => ⟨?_, ?_⟩⟩
      · rw [e90, h90 90 (by omega)]; exact iI_in (by omega) (by omega) (by omega)
      · rw [e91, iI_le ⟨by decide, by decide⟩ ⟨by omega, by omega⟩] at c
        rw [e90, h90 90 (by omega), h90x 90 (by omega), f7 90 (by omega)]
        have hb := fdN_le a5 (by omega) a11 90
        refine where_99 hi' k0 hp e1 a1 a2 u1 u2 (by omega) hb.1 (by omega) ?_
        have := k h' hS hfd'
        unfold atI at this
        rw [hdd, fdN_cap (by omega) (by omega) a11 a12 (by omega)] at this
        exact this
      · rw [e91, iI_le ⟨by decide, by decide⟩ ⟨by omega, by omega⟩] at c
        rw [h90 _ (by omega)]; exact iI_in (by omega) (by omega) (by omega)
      · rw [e91, iI_le ⟨by decide, by decide⟩ ⟨by omega, by omega⟩] at c
        rw [h90 _ (by omega), h90x _ (by omega), f7 _ (by omega)]
        have hb := fdN_le a5 (by omega) a11 d
        refine where_99 hi' k0 hp e1 a1 a2 u1 u2 (by omega) hb.1 (by omega) ?_
        have := k h' hS hfd'
        unfold atI at this
        rw [hdd] at this
        exact this
  · exact absurd (by rw [z0, iI_le r0 ⟨by omega, by omega⟩]; omega) c2
end WHERE
