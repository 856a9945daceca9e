section WORLD
/-- what the start says of a String constant -/
def sC (e : String × Nat × String) : List Cond := [.exactly (.string e.1 e.2.1) "java/lang/String", .eq (.field (.string e.1 e.2.1) "java/lang/String" "coder" "B") (.int 0), .arrayOf (.field (.string e.1 e.2.1) "java/lang/String" "value" "[B") .byte, .eq (.length (.field (.string e.1 e.2.1) "java/lang/String" "value" "[B")) (.int (Int32.ofNat e.2.2.length))] ++ (List.range e.2.2.length).map (fun j => .eq (.elem (.field (.string e.1 e.2.1) "java/lang/String" "value" "[B") (.int (Int32.ofNat j))) (.int (Int32.ofNat (e.2.2.toList.getD j 'a').toNat)))
set_option maxRecDepth 100000 in
theorem sC_eq : (flatC (Jvm.Cond.and given_1 narrow_1)).drop 35 = sTab.flatMap sC := by decide +kernel
theorem sC_in : ∀ w ∈ sTab.flatMap sC, w ∈ flatC (Jvm.Cond.and given_1 narrow_1) := fun w h => by
  rw [← sC_eq] at h
  exact List.mem_of_mem_drop h
set_option maxRecDepth 100000 in
theorem sR_eq : sTab.map (fun e => Cond.stringRef e.1 e.2.1 e.2.2) = [660, 720, 780, 788, 789, 790, 802, 857, 876, 877, 878, 879, 880, 881, 882, 897, 901, 902, 903, 904, 925, 996, 1014, 1036, 1056, 1090, 1160, 1320].filterMap (fun i => lw_tbl[i]?) := by decide +kernel
theorem sR_in : ∀ w ∈ sTab.map (fun e => Cond.stringRef e.1 e.2.1 e.2.2), w ∈ lw_tbl := fun w h => by
  rw [sR_eq] at h
  obtain ⟨i, -, hi⟩ := List.mem_filterMap.mp h
  exact List.mem_of_getElem? hi
theorem sL_in : ∀ e ∈ sTab, e.2.2.length < 2 ^ 31 := by decide +kernel
theorem sTab_28 : sTab.length = 28 := rfl
theorem str_at {s : State} {args : Array Value} {A : Nat → Prop} (hA : ∀ a : Nat, a < s.heap.size → ¬ A a) (hts : ∀ w ∈ lw_tbl, w.before args s = true) (hg : ∀ w ∈ flatC (Jvm.Cond.and given_1 narrow_1), w.before args s = true) {e : String × Nat × String} (he : e ∈ sTab) :
    ∃ q : Nat × Nat, vk_R e.1 e.2.1 e.2.2 q.1 s ∧ va_O "java/lang/String" q.1 A s s.heap ∧ va_OF "java/lang/String" "coder" "B" (.int 0) q.1 A s s.heap ∧ va_OF "java/lang/String" "value" "[B" (.ref q.2) q.1 A s s.heap ∧ va_T .byte q.2 e.2.2.length (fun j => .int (Int32.ofNat (e.2.2.toList.getD j 'a').toNat)) A s s.heap := by
  have hw : ∀ w ∈ sC e, w.before args s = true := fun w hw => hg w (sC_in w (List.mem_flatMap.mpr ⟨e, he, hw⟩))
  have hsr : (Cond.stringRef e.1 e.2.1 e.2.2).before args s = true := hts _ (sR_in _ (List.mem_map.mpr ⟨e, he, rfl⟩))
  have hex : (Cond.exactly (.string e.1 e.2.1) "java/lang/String").before args s = true := hw _ (by unfold sC; simp)
  have hco : (Cond.eq (.field (.string e.1 e.2.1) "java/lang/String" "coder" "B") (.int 0)).before args s = true := hw _ (by unfold sC; simp)
  have har : (Cond.arrayOf (.field (.string e.1 e.2.1) "java/lang/String" "value" "[B") .byte).before args s = true := hw _ (by unfold sC; simp)
  have hle : (Cond.eq (.length (.field (.string e.1 e.2.1) "java/lang/String" "value" "[B")) (.int (Int32.ofNat e.2.2.length))).before args s = true := hw _ (by unfold sC; simp)
  have hel : ∀ j, j < e.2.2.length → (Cond.eq (.elem (.field (.string e.1 e.2.1) "java/lang/String" "value" "[B") (.int (Int32.ofNat j))) (.int (Int32.ofNat (e.2.2.toList.getD j 'a').toNat))).before args s = true := fun j hj => hw _ (List.mem_append_right _ (List.mem_map.mpr ⟨j, List.mem_range.mpr hj, rfl⟩))
  obtain ⟨a, c, cA, kA, q1, q2, q3, q4, q5, q6, -⟩ := Cond.exactly_spec (args := args) (first := s) (o := none) (s := s) (idx := []) (t := .string e.1 e.2.1) (cls := "java/lang/String") hex
  obtain ⟨t, ht, hT⟩ := va_Tof (f := fun j => .int (Int32.ofNat (e.2.2.toList.getD j 'a').toNat)) (A := A) (sL_in e he) har (va_eqt hle) (fun j hj => va_eqt (hel j hj)) hA
  exact ⟨(a, t), vk_R.of hsr q1, va_Oof hex q1 hA, vk_OFof q1 (va_eqt hco) hA, vk_OFof q1 ht hA, hT⟩
theorem arr_of {s : State} {args : Array Value} {ty : FieldType} (hw : (Cond.arrayClass ty).before args s = true) : ∃ cA : ClassId, ArrOfT s cA ty ∧ s.vm.findClass ("[" ++ ty.toString) = some cA := by
  obtain ⟨cA, kA, comp, h1, h2, h3⟩ := Cond.arrayClass_spec hw
  exact ⟨cA, fun n z => ⟨fun k h => (by cases h), kA, h2, comp, h3⟩, h1⟩
theorem lw_in {w : Cond} (h : w ∈ gT) : w ∈ lw_tbl := (List.mem_filter.mp h).1
set_option maxRecDepth 100000 in
/-- the law's start has all that the mini machine wants of old things -/
theorem gW_of {s : State} {b L : Nat} {xs : Nat → Int32} {l : Launch} (hl : l.stackTraces = false) (hts : ∀ w ∈ lw_tbl, w.before #[Value.ref b] s = true) (hX : va_X b L xs s s.heap) (hbl : b < s.heap.size) (hgv : (Jvm.Cond.and given_1 narrow_1).before #[Value.ref b] s = true) : ∃ G : GX, gL G = l ∧ gZ G = s.heap.size ∧ gO G 1000 = b ∧ gN G = L ∧ gW G s := by
  have hg := flat_of_before _ hgv
  have htg : ∀ w ∈ gT, w.before #[Value.ref b] s = true := fun w hw => hts w (lw_in hw)
  have hA : ∀ a : Nat, a < s.heap.size → ¬ (fun q : Nat => s.heap.size ≤ q) a := fun a h => Nat.not_le.mpr h
  obtain ⟨c0, i0, k0⟩ := u_known (C := RX0) (T := TX0) (N := 6) (n := 6) htg cl0_in (htg _ w_409)
  obtain ⟨c1, i1, k1⟩ := u_known (C := RX1) (T := TX1) (N := 11) (n := 11) htg cl1_in (htg _ w_361)
  obtain ⟨c2, i2, k2⟩ := u_known (C := RX2) (T := TX2) (N := 11) (n := 11) htg cl2_in (htg _ w_170)
  obtain ⟨c3, i3, k3⟩ := u_known (C := RX3) (T := TX3) (N := 7) (n := 7) htg cl3_in (htg _ w_232)
  obtain ⟨c4, i4, k4⟩ := u_known (C := RX4) (T := TX4) (N := 2) (n := 2) htg cl4_in (htg _ w_348)
  obtain ⟨c5, i5, k5⟩ := u_known (C := RX5) (T := TX5) (N := 3) (n := 3) htg cl5_in (htg _ w_437)
  obtain ⟨c6, i6, k6⟩ := u_known (C := RX6) (T := TX6) (N := 9) (n := 9) htg cl6_in (htg _ w_307)
  obtain ⟨c7, i7, k7⟩ := u_known (C := RX7) (T := TX7) (N := 7) (n := 7) htg cl7_in (htg _ w_273)
  obtain ⟨c8, i8, k8⟩ := u_known (C := RX9) (T := TX9) (N := 10) (n := 10) htg cl8_in (htg _ w_127)
  obtain ⟨c9, i9, k9⟩ := u_known (C := RX10) (T := TX10) (N := 17) (n := 17) htg cl9_in (htg _ w_119)
  obtain ⟨c10, i10, k10⟩ := u_known (C := RX11) (T := TX11) (N := 61) (n := 61) htg cl10_in (htg _ w_1322)
  obtain ⟨a0, p0, r0⟩ := arr_of (htg _ w_230)
  obtain ⟨a1, p1, r1⟩ := arr_of (htg _ w_168)
  obtain ⟨a2, p2, r2⟩ := arr_of (htg _ w_1858)
  have hst : ∀ n : Nat, ∃ q : Nat × Nat, ∀ e, sTab[n]? = some e → vk_R e.1 e.2.1 e.2.2 q.1 s ∧ va_O "java/lang/String" q.1 (fun q : Nat => s.heap.size ≤ q) s s.heap ∧ va_OF "java/lang/String" "coder" "B" (.int 0) q.1 (fun q : Nat => s.heap.size ≤ q) s s.heap ∧ va_OF "java/lang/String" "value" "[B" (.ref q.2) q.1 (fun q : Nat => s.heap.size ≤ q) s s.heap ∧ va_T .byte q.2 e.2.2.length (fun j => .int (Int32.ofNat (e.2.2.toList.getD j 'a').toNat)) (fun q : Nat => s.heap.size ≤ q) s s.heap := by
    intro n
    cases hn : sTab[n]? with
    | none => exact ⟨(0, 0), fun e h => by cases h⟩
    | some e =>
      obtain ⟨q, hq⟩ := str_at hA hts hg (List.mem_of_getElem? hn)
      exact ⟨q, fun e' h => by cases h; exact hq⟩
  obtain ⟨ad, had⟩ := Classical.axiomOfChoice hst
  have u1 : vx_Zq Bundle.tN "UNASSIGNED_STACK" Bundle.steD (fun q : Nat => s.heap.size ≤ q) s s.heap := vx_Zqof (hts _ (List.mem_of_getElem? (i := 647) (by decide +kernel))) (hts _ (List.mem_of_getElem? (i := 106) (by decide +kernel))) (hg _ (List.mem_of_getElem? (i := 4) (by decide +kernel))) hA
  have u2 : vx_Zq Bundle.tN "SUPPRESSED_SENTINEL" Bundle.listD (fun q : Nat => s.heap.size ≤ q) s s.heap := vx_Zqof (hts _ (List.mem_of_getElem? (i := 649) (by decide +kernel))) (hts _ (List.mem_of_getElem? (i := 106) (by decide +kernel))) (hg _ (List.mem_of_getElem? (i := 5) (by decide +kernel))) hA
  have u3 : va_Z "java/lang/String" "COMPACT_STRINGS" "Z" (.int 1) (fun q : Nat => s.heap.size ≤ q) s s.heap := va_Zof (hts _ (List.mem_of_getElem? (i := 734) (by decide +kernel))) (hts _ (List.mem_of_getElem? (i := 112) (by decide +kernel))) (va_eqi (hg _ (List.mem_of_getElem? (i := 6) (by decide +kernel)))) hA
  have u4 : va_Zq "jdk/internal/util/Preconditions" "SIOOBE_FORMATTER" "Ljava/util/function/BiFunction;" (fun q : Nat => s.heap.size ≤ q) s s.heap := va_Zqof (hts _ (List.mem_of_getElem? (i := 750) (by decide +kernel))) (hts _ (List.mem_of_getElem? (i := 114) (by decide +kernel))) (hg _ (List.mem_of_getElem? (i := 7) (by decide +kernel))) hA
  have u5 : gCast s := hg cNot (List.mem_of_getElem? (i := 34) (by decide +kernel))
  obtain ⟨f, hf⟩ : ∃ f : Nat, va_Z "jdk/internal/util/Preconditions" "SIOOBE_FORMATTER" "Ljava/util/function/BiFunction;" .null (fun q : Nat => s.heap.size ≤ q) s s.heap ∨ va_Z "jdk/internal/util/Preconditions" "SIOOBE_FORMATTER" "Ljava/util/function/BiFunction;" (.ref f) (fun q : Nat => s.heap.size ≤ q) s s.heap := by
    rcases u4 with h | ⟨t, h⟩
    · exact ⟨0, .inl h⟩
    · exact ⟨t, .inr h⟩
  have lt : ∀ (n : Nat) (e : String × Nat × String), sTab[n]? = some e → n < 28 := fun n e h => (List.getElem?_eq_some_iff.mp h).1
  obtain ⟨O, o1, o2, o3, o4⟩ : ∃ O : Nat → Nat, O 1000 = b ∧ O 1001 = f ∧ (∀ n, n < 28 → O n = (ad n).1) ∧ ∀ n, n < 28 → O (100 + n) = (ad n).2 := by
    refine ⟨fun n => if n < 28 then (ad n).1 else if n < 128 then (ad (n - 100)).2 else if n = 1000 then b else f, rfl, rfl, fun n hn => if_pos hn, fun n hn => ?_⟩
    show (if 100 + n < 28 then (ad (100 + n)).1 else if 100 + n < 128 then (ad (100 + n - 100)).2 else if 100 + n = 1000 then b else f) = _
    rw [if_neg (by omega), if_pos (by omega), show 100 + n - 100 = n by omega]
  refine ⟨(l, s.heap.size, O, (fun k => [c0, c1, c2, c3, c4, c5, c6, c7, c8, c9, c10].getD k c0, fun k => [i0, i1, i2, i3, i4, i5, i6, i7, i8, i9, i10].getD k i0), fun k => [a0, a1, a2].getD k a0, L, xs), rfl, rfl, o1, rfl, ⟨fun c q hq => ?_, fun k q hq => ?_⟩, u1, u2, hl, fun n e h => ?_, fun n e h => ?_, fun w hw hm => ?_, u3, ⟨?_, ?_⟩, ?_, u5⟩
  · match c, hq with
    | 0, hq => cases hq; exact k0
    | 1, hq => cases hq; exact k1
    | 2, hq => cases hq; exact k2
    | 3, hq => cases hq; exact k3
    | 4, hq => cases hq; exact k4
    | 5, hq => cases hq; exact k5
    | 6, hq => cases hq; exact k6
    | 7, hq => cases hq; exact k7
    | 8, hq => cases hq; exact k8
    | 9, hq => cases hq; exact k9
    | 10, hq => cases hq; exact k10
    | k + 11, hq => simp [mCl] at hq
  · match k, hq with
    | 0, hq => cases hq; exact ⟨p0, r0⟩
    | 1, hq => cases hq; exact ⟨p1, r1⟩
    | 2, hq => cases hq; exact ⟨p2, r2⟩
    | k + 3, hq => simp at hq
  · have := (had n e h).1
    show vk_R e.1 e.2.1 e.2.2 (O n) s
    rw [o3 n (lt n e h)]
    exact this
  · obtain ⟨-, h1, h2, h3, h4⟩ := had n e h
    show va_O _ (O n) _ s s.heap ∧ va_OF _ _ _ _ (O n) _ s s.heap ∧ va_OF _ _ _ (.ref (O (100 + n))) (O n) _ s s.heap ∧ va_T _ (O (100 + n)) _ _ _ s s.heap
    rw [o3 n (lt n e h), o4 n (lt n e h)]
    exact ⟨h1, h2, h3, h4⟩
  · unfold mvb at hm
    rw [Bool.and_eq_true] at hm
    exact va_Nw.of hm.1 (hts w hw)
  · show va_X (O 1000) L xs s s.heap
    rw [o1]
    exact hX
  · show O 1000 < s.heap.size
    rw [o1]
    exact hbl
  · rcases hf with h | h
    · exact .inl h
    · refine .inr ?_
      show va_Z _ _ _ (.ref (O 1001)) _ s s.heap
      rw [o2]
      exact h
end WORLD
