section LOOP
variable {G : GX} {h : mH}
theorem and31 (x : Int32) : ∃ c : Nat, c < 32 ∧ x &&& 31 = iI (c : Nat) := by
  have lt : (x.toBitVec &&& 31#32).toNat < 32 := by
    rw [BitVec.toNat_and]
    exact Nat.lt_of_le_of_lt Nat.and_le_right (by decide)
  refine ⟨(x.toBitVec &&& 31#32).toNat, lt, ?_⟩
  rw [← iI_self (x &&& 31)]
  show iI (x.toBitVec &&& 31#32).toInt = _
  congr 1
  rw [BitVec.toInt_eq_toNat_cond, if_pos (by omega)]
def QL : mO → mH → Prop := fun o _ => o = .inl (some (.int 1))

theorem law_call {i d : Nat} (hN : gN G ≤ 3072) (hi : i + 6 ≤ gN G) (hR : Re (d + 1) h) (nx : ∀ g, Re d g → Vw G jLw 1793 [some (.float 1000), some (.ref 0), some (.ref 83), some (.ref 116), some (.int (iI (i : Nat))), none, none] [] g QL) {x : Int32} : Vw G jLw 40 [some (.float 1000), some (.ref 0), some (.ref 83), some (.ref 116), some (.int (iI (i : Nat))), none, none] [.int (x &&& 31)] h QL := by
  have iv := hR.1.1
  have hv : ∀ k : Nat, 1 ≤ k → k ≤ 5 → vp_in (iI (i : Nat) + Int32.ofNat k) (gN G) := fun k h1 h2 => by
    rw [show Int32.ofNat k = iI (k : Nat) from (Int32.ofInt_eq_ofNat).symm, ad_n]
    exact in_n (by omega) (by omega)
  obtain ⟨c, c32, e⟩ := and31 x
  rw [e]
  rcases (show c = 0 ∨ c = 1 ∨ c = 2 ∨ c = 3 ∨ c = 4 ∨ c = 5 ∨ c = 6 ∨ c = 7 ∨ c = 8 ∨ c = 9 ∨ c = 10 ∨ c = 11 ∨ c = 12 ∨ c = 13 ∨ c = 14 ∨ c = 15 ∨ c = 16 ∨ c = 17 ∨ c = 18 ∨ c = 19 ∨ c = 20 ∨ c = 21 ∨ c = 22 ∨ c = 23 ∨ c = 24 ∨ c = 25 ∨ c = 26 ∨ c = 27 ∨ c = 28 ∨ c = 29 ∨ c = 30 ∨ c = 31 by omega) with rfl | rfl | rfl | rfl | rfl | rfl | rfl | rfl | rfl | rfl | rfl | rfl | rfl | rfl | rfl | rfl | rfl | rfl | rfl | rfl | rfl | rfl | rfl | rfl | rfl | rfl | rfl | rfl | rfl | rfl | rfl | rfl
  · exact s_tableIn (off := 144) 184 dL_law_40 (by decide) (by decide) (by decide) rfl (k_feed hv iv (c_feed hR nx) (fun _ q => q))
  · exact s_tableIn (off := 217) 257 dL_law_40 (by decide) (by decide) (by decide) rfl (k_swings hv iv (c_swings hR nx) (fun _ q => q))
  · exact s_tableIn (off := 273) 313 dL_law_40 (by decide) (by decide) (by decide) rfl (k_score hv iv (c_score hR nx) (fun _ q => q))
  · exact s_tableIn (off := 329) 369 dL_law_40 (by decide) (by decide) (by decide) rfl (k_performed hv iv (c_performed hR nx) (fun _ q => q))
  · exact s_tableIn (off := 385) 425 dL_law_40 (by decide) (by decide) (by decide) rfl (k_marks hv iv (c_marks hR nx) (fun _ q => q))
  · exact s_tableIn (off := 441) 481 dL_law_40 (by decide) (by decide) (by decide) rfl (k_fault hv iv (c_fault hR nx) (fun _ q => q))
  · exact s_tableIn (off := 454) 494 dL_law_40 (by decide) (by decide) (by decide) rfl (k_count hv iv (c_count hR nx) (fun _ q => q))
  · exact s_tableIn (off := 510) 550 dL_law_40 (by decide) (by decide) (by decide) rfl (k_pendulum hv iv (c_pendulum hR nx) (fun _ q => q))
  · exact s_tableIn (off := 578) 618 dL_law_40 (by decide) (by decide) (by decide) rfl (k_set hv iv (c_set hR nx) (fun _ q => q))
  · exact s_tableIn (off := 658) 698 dL_law_40 (by decide) (by decide) (by decide) rfl (k_swing hv iv (c_swing hR nx) (fun _ q => q))
  · exact s_tableIn (off := 726) 766 dL_law_40 (by decide) (by decide) (by decide) rfl (k_pen hv iv (c_pen hR nx) (fun _ q => q))
  · exact s_tableIn (off := 794) 834 dL_law_40 (by decide) (by decide) (by decide) rfl (k_drawn hv iv (c_drawn hR nx) (fun _ q => q))
  · exact s_tableIn (off := 862) 902 dL_law_40 (by decide) (by decide) (by decide) rfl (k_inCell hv iv (c_inCell hR nx) (fun _ q => q))
  · exact s_tableIn (off := 942) 982 dL_law_40 (by decide) (by decide) (by decide) rfl (k_round hv iv (c_round hR nx) (fun _ q => q))
  · exact s_tableIn (off := 955) 995 dL_law_40 (by decide) (by decide) (by decide) rfl (k_off hv iv (c_off hR nx) (fun _ q => q))
  · exact s_tableIn (off := 968) 1008 dL_law_40 (by decide) (by decide) (by decide) rfl (k_keep hv iv (c_keep hR nx) (fun _ q => q))
  · exact s_tableIn (off := 981) 1021 dL_law_40 (by decide) (by decide) (by decide) rfl (k_take hv iv (c_take hR nx) (fun _ q => q))
  · exact s_tableIn (off := 1017) 1057 dL_law_40 (by decide) (by decide) (by decide) rfl (k_alike hv iv (c_alike hR nx) (fun _ q => q))
  · exact s_tableIn (off := 1085) 1125 dL_law_40 (by decide) (by decide) (by decide) rfl (k_kinds hv iv (c_kinds hR nx) (fun _ q => q))
  · exact s_tableIn (off := 1141) 1181 dL_law_40 (by decide) (by decide) (by decide) rfl (k_point hv iv (c_point hR nx) (fun _ q => q))
  · exact s_tableIn (off := 1190) 1230 dL_law_40 (by decide) (by decide) (by decide) rfl (k_unpoint hv iv (c_unpoint hR nx) (fun _ q => q))
  · exact s_tableIn (off := 1203) 1243 dL_law_40 (by decide) (by decide) (by decide) rfl (k_fits hv iv (c_fits hR nx) (fun _ q => q))
  · exact s_tableIn (off := 1283) 1323 dL_law_40 (by decide) (by decide) (by decide) rfl (k_chord hv iv (c_chord hR nx) (fun _ q => q))
  · exact s_tableIn (off := 1363) 1403 dL_law_40 (by decide) (by decide) (by decide) rfl (k_cart hv iv (c_cart hR nx) (fun _ q => q))
  · exact s_tableIn (off := 1419) 1459 dL_law_40 (by decide) (by decide) (by decide) rfl (k_birthday hv iv (c_birthday hR nx) (fun _ q => q))
  · exact s_tableIn (off := 1444) 1484 dL_law_40 (by decide) (by decide) (by decide) rfl (k_forget hv iv (c_forget hR nx) (fun _ q => q))
  · exact s_tableIn (off := 1457) 1497 dL_law_40 (by decide) (by decide) (by decide) rfl (k_factor hv iv (c_factor hR nx) (fun _ q => q))
  · exact s_tableIn (off := 1513) 1553 dL_law_40 (by decide) (by decide) (by decide) rfl (k_laid hv iv (c_laid hR nx) (fun _ q => q))
  · exact s_tableIn (off := 1617) 1657 dL_law_40 (by decide) (by decide) (by decide) rfl (k_evening hv iv (c_evening hR nx) (fun _ q => q))
  · exact s_tableIn (off := 1673) 1713 dL_law_40 (by decide) (by decide) (by decide) rfl (k_drawing hv iv (c_drawing hR nx) (fun _ q => q))
  · exact s_tableIn (off := 1729) 1769 dL_law_40 (by decide) (by decide) (by decide) rfl (k_image hv iv (c_image hR nx) (fun _ q => q))
  · exact s_tableIn (off := 1740) 1780 dL_law_40 (by decide) (by decide) (by decide) rfl (k_restore hv iv (c_restore hR nx) (fun _ q => q))
theorem law_loop (hN : gN G ≤ 3072) : ∀ (d i : Nat) (h : mH), i ≤ gN G + 6 → gN G ≤ i + 6 * d + 5 → Re d h → Vw G jLw 23 [some (.float 1000), some (.ref 0), some (.ref 83), some (.ref 116), some (.int (iI (i : Nat))), none, none] [] h QL := by
  intro d
  induction d with
  | zero =>
    intro i h h1 h2 hR
    refine s_iload dL_law_23 rfl (s_aloadS_n dL_law_25 rfl (s_slen dL_law_26 (s_bipush 6 dL_law_27 (by decide) (s_isub dL_law_29 (s_icmp_gt 1799 dL_law_30 rfl (fun _ => s_iconst 1 dL_law_1799 (by decide) (s_zreturn dL_law_1800 rfl (by decide) rfl)) (fun c => ?_))))))
    exfalso
    refine c ?_
    rw [show Int32.ofNat (gN G) = iI ((gN G : Nat) : Int) from (Int32.ofInt_eq_ofNat).symm, show (6 : Int32) = iI 6 from by decide, iI_sub, iI_lt ⟨by omega, by omega⟩ ⟨by omega, by omega⟩]
    omega
  | succ d ih =>
    intro i h h1 h2 hR
    refine s_iload dL_law_23 rfl (s_aloadS_n dL_law_25 rfl (s_slen dL_law_26 (s_bipush 6 dL_law_27 (by decide) (s_isub dL_law_29 (s_icmp_gt 1799 dL_law_30 rfl (fun _ => s_iconst 1 dL_law_1799 (by decide) (s_zreturn dL_law_1800 rfl (by decide) rfl)) (fun c => ?_))))))
    have hi : i + 6 ≤ gN G := by
      refine Classical.byContradiction (fun z => c ?_)
      rw [show Int32.ofNat (gN G) = iI ((gN G : Nat) : Int) from (Int32.ofInt_eq_ofNat).symm, show (6 : Int32) = iI 6 from by decide, iI_sub, iI_lt ⟨by omega, by omega⟩ ⟨by omega, by omega⟩]
      omega
    refine s_aloadS_n dL_law_33 rfl (s_iload dL_law_34 rfl (s_sload dL_law_36 (in_n (by omega) (by omega)) (s_bipush 31 dL_law_37 (by decide) (s_iand dL_law_39 (law_call hN hi hR (fun g R => ?_))))))
    refine s_iinc 6 dL_law_1793 rfl (by decide) (Nat.le_of_ble_eq_true rfl) rfl (s_goto 23 dL_law_1796 rfl ?_)
    show Vw G jLw 23 [some (.float 1000), some (.ref 0), some (.ref 83), some (.ref 116), some (.int (iI (i : Nat) + 6)), none, none] [] g QL
    rw [n_6, ad_n]
    exact ih (i + 6) g (by omega) (by omega) R
end LOOP
