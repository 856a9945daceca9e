section THROWS
variable {G : GX} {j : MX} {pc : Nat} {ls : mL} {st : List Value} {h : mH} {Q : mO → mH → Prop}
theorem W.weaken {p : Program} {l : Launch} {e : Env} {R : Room} {s : State} {m : MethodId} {args : Array Value} {below : List Frame} {meth : Method} {c : Code} {H : Heap} {locs : List Loc} {cells slots : Nat} {Q1 Q2 : State → Prop} {g : JFrame} (hq : ∀ t, Q1 t → Q2 t) (k : W p l e R s m args below meth c H locs cells slots Q1 g) : W p l e R s m args below meth c H locs cells slots Q2 g := by
  intro T hT X
  obtain ⟨t, a, b⟩ := k T hT X
  exact ⟨t, a, hq t b⟩
def exNames : List String := ["java/lang/RuntimeException", "java/lang/Exception"]
/-- what 'throw new E("text")' wants of the tables -/
def kLT (own E : String) (ik ic is n : Nat) (text : String) : Prop := Bundle.fit E = true ∧ Cond.classLink own ik E ∈ gT ∧ Cond.initialized E ∈ gT ∧ sTab[n]? = some (own, is, text) ∧ (∀ w ∈ vx_atS own ic E exNames, w ∈ lw_tbl ∧ mvb w = true) ∧ (∀ w ∈ Cond.classLink own ik E :: Cond.initialized E :: vx_atS own ic E exNames, vx_ot w = true)
/-- 'throw new E("text")': a thing of six cells at most comes, nothing else changes -/
theorem s_throw {E text : String} {ik ic is n : Nat} (d0 : decode (jC j) pc = .ok (.new ik, 3)) (d3 : decode (jC j) (pc + 3) = .ok (.dup, 1)) (d4 : decode (jC j) (pc + 4) = .ok (.ldc_w is, 3)) (d7 : decode (jC j) (pc + 7) = .ok (.invokespecial ic, 3)) (d10 : decode (jC j) (pc + 10) = .ok (.athrow, 1)) (hout : jT j = []) (hl : kLT (jY j).cls E ik ic is n text) (hf : 6 ≤ jF j) (hw : (st.map Value.category).sum + 82 ≤ jW j) (b1 : h.1.length + 1 ≤ NC) (b2 : sl h + 6 ≤ NS) (k0 : Q (.inr E) h) (k : ∀ n, n ≤ 6 → Q (.inr E) (aN h 200 n)) : Vw G j pc ls st h Q := by
  intro p e s m args below meth c' h0 H locs la F hS hP hE hl9
  have hts := F.2.2.2.2.2.2.1
  have hg := F.2.2.2.2.2.2.2.1
  obtain ⟨l1, l2, l3, l4, l5, l6⟩ := hl
  obtain ⟨r, hr⟩ := id hE
  have hlen : h.1.length = h0.1.length + r.length := by rw [hr, List.length_append]
  have hsum : sl h = sl h0 + (r.map Prod.snd).sum := by unfold sl; rw [hr, List.map_append, List.sum_append]
  have hcat : ((st.map (rv G)).map fun v => v.category) = st.map Value.category := by
    rw [List.map_map]
    apply List.map_congr_left
    intro v _
    cases v <;> rfl
  have hsz : gZ G ≤ s.heap.size := by rw [F.2.2.2.2.2.2.2.2.1.1]; omega
  have hold : ∀ q, q < gZ G → H[q]? = s.heap[q]? := fun q hq => hS.2.1 q (by omega) (fun z => absurd z (Nat.not_le.mpr hq))
  have key := vx_throwSW (Qc := qR G h0 Q) (XC := fun E' s' t => E' = E ∧ s' = s ∧ H.size ≤ t.heap.size ∧ ∀ q : Nat, q < H.size → t.heap[q]? = H[q]?) (p := p) (l := gL G) (e := e) (R := jRm j h0) (s := s) (m := m) (args := args) (below := below) (meth := meth) (c := c') (H := H) (locs := locs) (cells := h.1.length - h0.1.length) (slots := sl h - sl h0) (ls := la) (rest := st.map (rv G)) (mc := h.1.length - h0.1.length + 1) (ms := sl h - sl h0 + 6) (free := gA G) (A := gA G) (names := exNames) (sa := gO G n) (text := text) (own := (jY j).cls) (cls := E) (ik := ik) (is := is) (ic := ic)
    F.1 F.2.1 hg.2.2.2.1 F.2.2.2.2.2.1 l1 (by decide +kernel) (hts _ l2) (hts _ l3) (hg.2.2.2.2.1 n _ l4) (fun w hw => va_Nw.use (by have := (l5 w hw).2; unfold mvb at this; rw [Bool.and_eq_true] at this; exact this.1) (hg.2.2.2.2.2.2.1 w (l5 w hw).1 (l5 w hw).2)) l6 hg.2.1 hg.2.2.1 hS (by rw [F.2.2.1]; exact hl9.1)
    d0 d3 d4 d7 d10 (by rw [F.2.2.2.2.2.2.2.2.2.2, hout]; intro x hx; cases hx) (by show 2 + 3 < jF j; omega) (by rw [hcat]; show _ + (13 * (2 + 1) + 43) ≤ jW j; omega) (by show _ + 1 ≤ NC - h0.1.length; omega) (by show _ + 6 ≤ NS - sl h0; omega) F.2.2.2.2.1
    (fun t _ t1 t2 => ⟨rfl, rfl, t1, t2⟩) hS.2.2 (Nat.le_refl _) (Nat.le_refl _)
  refine W.weaken ?_ key
  intro t ht
  obtain ⟨o, a1, a2, a3⟩ := ht
  refine ⟨o, a1, a2, ?_⟩
  rcases a3 with ⟨⟨v, h', c1, c2, c3⟩, L, hFE, hL⟩ | ⟨q, c0, E', ce, L, ⟨rfl, -, t1, t2⟩, c2, c3, c4, c5, c6, c7⟩
  · obtain ⟨q1, q2, q3⟩ := hFE
    exact Or.inl ⟨⟨v, h', c1, c2, c3⟩, L, ⟨q1, q2, q3.mono (by omega) (by omega)⟩, hL⟩
  · refine Or.inr ⟨q, c0, E', ce, L, ?_, c2, c3, c4, c5, c6.mono (by omega) (by omega), c7⟩
    obtain ⟨x1, x2, x3, x4, x5, x6⟩ := c6
    have y1 : t.heap.size ≤ s.heap.size + (h.1.length - h0.1.length + 1) := x3
    have y5 : ((t.heap.toList.drop s.heap.size).map (fun x : Cell => x.slots.size)).sum ≤ sl h - sl h0 + 6 := x5
    have z0 := F.2.2.2.2.2.2.2.2.1.1
    have zH := hP.1
    have hob : ∀ q, q < gZ G → t.heap[q]? = s.heap[q]? := fun q hq => (t2 q (by omega)).trans (hold q hq)
    by_cases hz : t.heap.size = H.size
    · have he : t.heap = H := by
        apply Array.ext_getElem?
        intro i
        by_cases hi : i < H.size
        · exact t2 i hi
        · rw [Array.getElem?_eq_none (by omega), Array.getElem?_eq_none (by omega)]
      exact ⟨h, k0, by rw [he]; exact hP, hE, hob⟩
    · have hs1 : t.heap.size = H.size + 1 := by omega
      obtain ⟨ce9, hce9⟩ : ∃ ce9, t.heap[H.size]? = some ce9 := ⟨_, Array.getElem?_eq_getElem (by omega)⟩
      have hl : (t.heap.toList.drop s.heap.size).map (fun x : Cell => x.slots.size) = r.map Prod.snd ++ [ce9.slots.size] := by
        apply List.ext_getElem?
        intro i
        rw [List.getElem?_map, List.getElem?_drop, Array.getElem?_toList]
        by_cases hi : i < r.length
        · rw [List.getElem?_append_left (by simpa using hi), List.getElem?_map, t2 _ (by omega)]
          obtain ⟨⟨c9, n9⟩, hq9⟩ : ∃ q, r[i]? = some q := ⟨_, List.getElem?_eq_getElem hi⟩
          have : h.1[h0.1.length + i]? = some (c9, n9) := by rw [hr, List.getElem?_append_right (by omega)]; simpa using hq9
          obtain ⟨ce8, g1, g2⟩ := hP.2.2.2 _ c9 n9 this
          rw [z0, Nat.add_assoc, g1, hq9]
          show some ce8.slots.size = some n9
          rw [g2.1]
        · rw [List.getElem?_append_right (by simpa using hi)]
          by_cases hi2 : i = r.length
          · subst hi2
            rw [show s.heap.size + r.length = H.size by omega, hce9]
            simp
          · rw [Array.getElem?_eq_none (by omega), List.getElem?_eq_none (by simp; omega)]
            rfl
      rw [hl, List.sum_append] at y5
      have hn6 : ce9.slots.size ≤ 6 := by simp at y5; omega
      refine ⟨aN h 200 ce9.slots.size, k _ hn6, ?_, hE.new, hob⟩
      exact hP.new b1 (by omega) hs1 t2 hce9 ⟨rfl, fun z => by omega, fun z => by omega, fun z => by omega, fun z => by omega, fun z => by omega⟩
end THROWS
