section MORE
variable {G : GX} {j : MX} {pc : Nat} {ls : mL} {st : List Value} {h : mH} {Q : mO → mH → Prop}
/-- System.arraycopy of ints between two rows -/
theorem s_acopy {i a b na nb : Nat} {sp dp n : Int32} (hd : decode (jC j) pc = .ok (.invokestatic i, 3)) (hlk : Cond.methodLink (jY j).cls i arraycopyName ∈ gT) (h1 : Cond.native arraycopyName ∈ gT) (h2 : Cond.static arraycopyName ∈ gT) (h3 : Cond.initialized "java/lang/System" ∈ gT)
    (ha : h.1[a]? = some (100, na)) (hb : h.1[b]? = some (100, nb)) (k1 : ¬ sp < 0) (k2 : ¬ dp < 0) (k3 : ¬ n < 0) (k4 : sp.toNatClampNeg + n.toNatClampNeg ≤ na) (k5 : dp.toNatClampNeg + n.toNatClampNeg ≤ nb) (hf : 1 ≤ jF j) (hw : (st.map Value.category).sum + (nativeFrameWords "java/lang/System" "arraycopy" 5 + 11) ≤ jW j)
    (k : Vw G j (pc + 3) ls st (pA h b (va_cpy (gI h a) (gI h b) sp.toNatClampNeg dp.toNatClampNeg n.toNatClampNeg)) Q) : Vw G j pc ls (.int n :: .int dp :: .ref b :: .int sp :: .ref a :: st) h Q := by
  intro p e s m args below meth c' h0 H locs la F hS hP hE hl
  have hts := F.2.2.2.2.2.2.1
  have hK := F.2.2.2.2.2.2.2.1.1
  have nn : ∀ z : Int32, ¬ z < 0 → z.toInt = (z.toNatClampNeg : Int) := by
    intro z hz
    have hz0 : (0 : Int) ≤ z.toInt := by
      have := Int32.not_lt.mp hz
      simpa using Int32.le_iff_toInt_le.mp this
    show z.toInt = ((z.toInt.toNat : Nat) : Int)
    omega
  have hcat : ((st.map (rv G)).map fun v => v.category) = st.map Value.category := by
    rw [List.map_map]
    apply List.map_congr_left
    intro v _
    cases v <;> rfl
  intro T hT X
  obtain ⟨ca, qa1, -, -, -, qa5, -⟩ := hP.2.2.2 a _ na ha
  obtain ⟨cb, qb1, -, -, -, qb5, -⟩ := hP.2.2.2 b _ nb hb
  rw [qa5 rfl] at qa1
  rw [qb5 rfl] at qb1
  obtain ⟨-, kk0, hk0, cm0, hkk0⟩ := (hK.2 0 _ rfl).1 na (fun i => .int (h.2.1 a i))
  obtain ⟨-, kk1, hk1, cm1, hkk1⟩ := (hK.2 0 _ rfl).1 nb (fun i => .int (h.2.1 b i))
  obtain ⟨vm', X', step⟩ := X.arraycopy F.1 F.2.2.2.2.2.1 (hts _ hlk) (hts _ h1) (hts _ h2) (hts _ h3) (src := gZ G + a) (dst := gZ G + b) (cs := vp_cell (gC G 0) (na, .inl (h.2.1 a))) (cd := vp_cell (gC G 0) (nb, .inl (h.2.1 b))) (srcPos := sp) (destPos := dp) (n := n) (by rw [hT]; exact qa1) (by rw [hT]; exact qb1)
    (fun _ h => by cases h) (fun _ h => by cases h) (fun h => by cases h) (fun h => by cases h) hk0 hk1 hkk0 hkk1 (by simp [refKind]) k1 k2 k3
    (by rw [nn sp k1, nn n k3]; show ¬ _ > ((arrV (gC G 0) na (fun i => .int (h.2.1 a i))).slots.size : Int); rw [arrV_size]; omega)
    (by rw [nn dp k2, nn n k3]; show ¬ _ > ((arrV (gC G 0) nb (fun i => .int (h.2.1 b i))).slots.size : Int); rw [arrV_size]; omega)
    (fun vm₁ _ i hi => by
      have e : (vp_cell (gC G 0) (na, .inl (h.2.1 a))).slots.getD (sp.toNatClampNeg + i) .null = .int (h.2.1 a (sp.toNatClampNeg + i)) := by
        show (arrV (gC G 0) na (fun j => .int (h.2.1 a j))).slots.getD _ _ = _
        rw [Array.getD_eq_getD_getElem?, arrV_read _ _ (by omega)]
        rfl
      refine ⟨?_, ?_⟩
      · rw [e]; rfl
      · rw [e]; exact trivial)
    (g := F0 m pc la (.int n :: .int dp :: .ref (gZ G + b) :: .int sp :: .ref (gZ G + a) :: st.map (rv G))) rfl (by rw [F.2.2.1]; exact hl.1) (rest := st.map (rv G)) rfl (by rw [F.2.1]; exact hd) hf (by show 2 * 0 + _ + _ ≤ jW j; rw [hcat]; omega)
  have e1 : copied (vp_cell (gC G 0) (na, .inl (h.2.1 a))) (vp_cell (gC G 0) (nb, .inl (h.2.1 b))) sp dp n = vp_cell (gC G 0) (nb, .inl (va_cpy (h.2.1 a) (h.2.1 b) sp.toNatClampNeg dp.toNatClampNeg n.toNatClampNeg)) := va_copied (fun z => .int z) _ _ _ _ k4
  rw [e1] at X' step
  have hbl : gZ G + b < H.size := (Array.getElem?_eq_some_iff.mp qb1).1
  generalize hce : vp_cell (gC G 0) (nb, .inl (va_cpy (h.2.1 a) (h.2.1 b) sp.toNatClampNeg dp.toNatClampNeg n.toNatClampNeg)) = ce at X' step
  have hheap : ((T.setVm vm').setCell (gZ G + b) ce).heap = H.setIfInBounds (gZ G + b) ce := by rw [← hT]; rfl
  have oq : ∀ q : Nat, q ≠ gZ G + b → (H.setIfInBounds (gZ G + b) ce)[q]? = H[q]? := fun q hq => by simp [Array.getElem?_setIfInBounds, Ne.symm hq]
  have hsz : (H.setIfInBounds (gZ G + b) ce).size = H.size := by simp
  have hat : (H.setIfInBounds (gZ G + b) ce)[gZ G + b]? = some ce := by simp [Array.getElem?_setIfInBounds, hbl]
  have hP' : Pic G (pA h b (va_cpy (gI h a) (gI h b) sp.toNatClampNeg dp.toNatClampNeg n.toNatClampNeg)) (H.setIfInBounds (gZ G + b) ce) := by
    refine hP.upd rfl hb (pA_other h b _) hsz oq hat ?_
    rw [← hce]
    exact ⟨arrV_size _ _ _, fun _ => rfl, fun z => by omega, fun _ => by rw [pA_self]; rfl, fun z => by omega, fun z => by omega⟩
  obtain ⟨t, a1, b1⟩ := k p e s m args below meth c' h0 _ _ la F ⟨by rw [hsz]; exact hS.1, fun q g1 g2 => by
      rw [oq q (fun e => g2 (by rw [e]; exact gA_in))]
      exact hS.2.1 q g1 g2, fun q hq => by
      rcases List.mem_append.mp hq with h | h
      · exact hS.2.2 q h
      · obtain ⟨z, -, hz⟩ := List.mem_map.mp h
        rw [← hz]
        exact gA_in⟩ hP' hE hl _ hheap X'
  exact ⟨t, step t a1, b1⟩
/-- the script of the law: the old thing 1000 -/
theorem s_sload {i : Int32} (hd : decode (jC j) pc = .ok (.iaload, 1)) (hi : vp_in i (gN G)) (kk : Vw G j (pc + 1) ls (.int (gX G i.toNatClampNeg) :: st) h Q) : Vw G j pc ls (.int i :: .float 1000 :: st) h Q := by
  intro p e s m args below meth c' h0 H locs la F hS hP hE hl
  have hx := F.2.2.2.2.2.2.2.1.2.2.2.2.2.2.2.2.1
  have hb : gO G 1000 < s.heap.size := by rw [F.2.2.2.2.2.2.2.2.1.1]; have := hx.2; omega
  exact va_sld F.1 F.2.1 hx.1 hb (fun z => absurd z (Nat.not_le.mpr hx.2)) hS hi hd (kk p e s m args below meth c' h0 H locs la F hS hP hE hl)
theorem s_slen (hd : decode (jC j) pc = .ok (.arraylength, 1)) (kk : Vw G j (pc + 1) ls (.int (Int32.ofNat (gN G)) :: st) h Q) : Vw G j pc ls (.float 1000 :: st) h Q := by
  intro p e s m args below meth c' h0 H locs la F hS hP hE hl
  have hx := F.2.2.2.2.2.2.2.1.2.2.2.2.2.2.2.2.1
  have hb : gO G 1000 < s.heap.size := by rw [F.2.2.2.2.2.2.2.2.1.1]; have := hx.2; omega
  exact va_slen F.1 F.2.1 hx.1 hb (fun z => absurd z (Nat.not_le.mpr hx.2)) hS hd (kk p e s m args below meth c' h0 H locs la F hS hP hE hl)
end MORE
